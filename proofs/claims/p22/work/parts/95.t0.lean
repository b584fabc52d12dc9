/-! all fillings of a list of cells, counted: those that a test takes -/
def Sm (f : Nat → Nat) : Nat → Nat → Nat
  | 0, _ => 0
  | k + 1, e => f (e + 1) + Sm f k (e + 1)
theorem Sm_add (f g : Nat → Nat) : ∀ k e, Sm (fun x => f x + g x) k e = Sm f k e + Sm g k e
  | 0, _ => rfl
  | k + 1, e => by rw [Sm, Sm, Sm, Sm_add f g k (e + 1)]; omega
theorem Sm_zero : ∀ k e, Sm (fun _ => 0) k e = 0
  | 0, _ => rfl
  | k + 1, e => by rw [Sm, Sm_zero k (e + 1)]
theorem Sm_swap (g : Nat → Nat → Nat) (k e : Nat) : ∀ m d, Sm (fun x => Sm (fun y => g x y) k e) m d = Sm (fun y => Sm (fun x => g x y) m d) k e
  | 0, d => (Sm_zero k e).symm
  | m + 1, d => by
    rw [Sm, Sm_swap g k e m (d + 1), ← Sm_add]
    rfl
theorem Sm_ge (f : Nat → Nat) : ∀ k e v, e < v → v ≤ e + k → f v ≤ Sm f k e
  | 0, e, v, h1, h2 => by omega
  | k + 1, e, v, h1, h2 => by
    rw [Sm]
    by_cases h : v = e + 1
    · subst h; omega
    · have := Sm_ge f k (e + 1) v (by omega) (by omega)
      omega
theorem Sm_two (f : Nat → Nat) : ∀ k e v w, e < v → v < w → w ≤ e + k → f v + f w ≤ Sm f k e
  | 0, e, v, w, h1, h2, h3 => by omega
  | k + 1, e, v, w, h1, h2, h3 => by
    rw [Sm]
    by_cases h : v = e + 1
    · subst h
      have := Sm_ge f k (e + 1) w (by omega) (by omega)
      omega
    · have := Sm_two f k (e + 1) v w (by omega) h2 (by omega)
      omega
theorem Sm_two' (f : Nat → Nat) {v w : Nat} (hv : 1 ≤ v ∧ v ≤ 9) (hw : 1 ≤ w ∧ w ≤ 9) (h : v ≠ w) : f v + f w ≤ Sm f 9 0 := by
  rcases Nat.lt_or_gt_of_ne h with q | q
  · exact Sm_two f 9 0 v w (by omega) q (by omega)
  · have := Sm_two f 9 0 w v (by omega) q (by omega)
    omega
theorem Sm_le (f : Nat → Nat) (M : Nat) (h : ∀ x, f x ≤ M) : ∀ k e, Sm f k e ≤ k * M
  | 0, _ => by rw [Sm]; omega
  | k + 1, e => by
    have := Sm_le f M h k (e + 1)
    have := h (e + 1)
    rw [Sm, Nat.succ_mul]; omega
/-- how many fillings of the cells L, over D, the test takes -/
def Cn (A : (Nat → Int32) → Bool) : List Nat → (Nat → Int32) → Nat
  | [], D => if A D = true then 1 else 0
  | c :: L, D => Sm (fun e => Cn A L (upd D c (nI e))) 9 0
def okA (A : (Nat → Int32) → Bool) : Prop := ∀ D E : Nat → Int32, (∀ x, x < 16 → D x = E x) → A D = A E
theorem Cn_congr {A : (Nat → Int32) → Bool} (hA : okA A) : ∀ (L : List Nat) (D E : Nat → Int32), (∀ x, x < 16 → x ∉ L → D x = E x) → Cn A L D = Cn A L E
  | [], D, E, h => by rw [Cn, Cn, hA D E (fun x hx => h x hx (by simp))]
  | c :: L, D, E, h => by
    rw [Cn, Cn]
    congr 1
    funext e
    refine Cn_congr hA L _ _ fun x hx hxL => ?_
    by_cases hq : x = c
    · rw [hq, upd_eq, upd_eq]
    · rw [upd_ne _ _ hq, upd_ne _ _ hq]
      exact h x hx (by simp [hq, hxL])
theorem Cn_le (A : (Nat → Int32) → Bool) : ∀ (L : List Nat) (D : Nat → Int32), Cn A L D ≤ 9 ^ L.length
  | [], D => by rw [Cn]; split <;> simp
  | c :: L, D => by
    rw [Cn, List.length_cons, Nat.pow_succ, Nat.mul_comm]
    exact Sm_le _ _ (fun e => Cn_le A L _) 9 0
theorem Cn_zero {A : (Nat → Int32) → Bool} (hA : okA A) : ∀ (L : List Nat) (D : Nat → Int32), L.Nodup → (∀ x, x ∈ L → x < 16) → (∀ E : Nat → Int32, (∀ x, x < 16 → x ∉ L → E x = D x) → (∀ x, x ∈ L → ∃ v : Nat, 1 ≤ v ∧ v ≤ 9 ∧ E x = nI v) → A E = false) → Cn A L D = 0
  | [], D, _, _, h => by rw [Cn, h D (fun _ _ _ => rfl) (fun x hx => by simp at hx)]; rfl
  | c :: L, D, hn, hL, h => by
    obtain ⟨hc, hn⟩ := List.nodup_cons.mp hn
    rw [Cn]
    have key : ∀ e, 1 ≤ e → e ≤ 9 → Cn A L (upd D c (nI e)) = 0 := fun e h1 h2 => by
      refine Cn_zero hA L _ hn (fun x hx => hL x (List.mem_cons_of_mem _ hx)) fun E q1 q2 => h E (fun x hx hxL => ?_) (fun x hx => ?_)
      · rw [List.mem_cons, not_or] at hxL
        rw [q1 x hx hxL.2, upd_ne _ _ hxL.1]
      · rcases List.mem_cons.mp hx with q | q
        · subst q
          exact ⟨e, h1, h2, by rw [q1 x (hL x List.mem_cons_self) hc, upd_eq]⟩
        · exact q2 x q
    simp only [Sm, key 1 (by omega) (by omega), key 2 (by omega) (by omega), key 3 (by omega) (by omega), key 4 (by omega) (by omega), key 5 (by omega) (by omega), key 6 (by omega) (by omega), key 7 (by omega) (by omega), key 8 (by omega) (by omega), key 9 (by omega) (by omega), Nat.zero_add, Nat.add_zero]
theorem Cn_pos {A : (Nat → Int32) → Bool} (hA : okA A) : ∀ (L : List Nat) (D E : Nat → Int32), (∀ x, x < 16 → x ∉ L → E x = D x) → (∀ x, x ∈ L → ∃ v : Nat, 1 ≤ v ∧ v ≤ 9 ∧ E x = nI v) → A E = true → 1 ≤ Cn A L D
  | [], D, E, h1, _, h3 => by
    rw [Cn, ← hA E D (fun x hx => h1 x hx (by simp)), h3]; simp
  | c :: L, D, E, h1, h2, h3 => by
    obtain ⟨v, hv1, hv9, e⟩ := h2 c List.mem_cons_self
    have ih : 1 ≤ Cn A L (upd D c (nI v)) := Cn_pos hA L _ E (fun x hx hxL => by
      by_cases hq : x = c
      · rw [hq, upd_eq, e]
      · rw [upd_ne _ _ hq]; exact h1 x hx (by simp [hq, hxL])) (fun x hx => h2 x (List.mem_cons_of_mem _ hx)) h3
    have := Sm_ge (fun e => Cn A L (upd D c (nI e))) 9 0 v (by omega) (by omega)
    rw [Cn]
    exact Nat.le_trans ih this
theorem upd_comm (f : Nat → Int32) {a b : Nat} (h : a ≠ b) (x y : Int32) : upd (upd f a x) b y = upd (upd f b y) a x := by
  funext j
  by_cases h1 : j = a
  · subst h1
    rw [upd_ne _ _ h, upd_eq, upd_eq]
  · by_cases h2 : j = b
    · subst h2
      rw [upd_eq, upd_ne _ _ h1, upd_eq]
    · rw [upd_ne _ _ h2, upd_ne _ _ h1, upd_ne _ _ h1, upd_ne _ _ h2]
theorem Cn_split (A : (Nat → Int32) → Bool) (u : Nat) : ∀ (L : List Nat) (D : Nat → Int32), L.Nodup → u ∈ L → Cn A L D = Sm (fun d => Cn A (L.filter (fun x => decide (x ≠ u))) (upd D u (nI d))) 9 0
  | [], D, _, h => by simp at h
  | c :: L, D, hn, h => by
    obtain ⟨hc, hn⟩ := List.nodup_cons.mp hn
    by_cases hq : c = u
    · subst hq
      have e : (c :: L).filter (fun x => decide (x ≠ c)) = L := by
        rw [List.filter_cons_of_neg (by simp)]
        exact List.filter_eq_self.mpr (fun x hx => by
          have : x ≠ c := fun q => hc (q ▸ hx)
          simp [this])
      rw [e, Cn]
    · have hu : u ∈ L := by
        rcases List.mem_cons.mp h with q | q
        · exact absurd q.symm hq
        · exact q
      have e : (c :: L).filter (fun x => decide (x ≠ u)) = c :: L.filter (fun x => decide (x ≠ u)) := List.filter_cons_of_pos (by simp [hq])
      rw [e, Cn]
      have ih : (fun e => Cn A L (upd D c (nI e))) = fun e => Sm (fun d => Cn A (L.filter (fun x => decide (x ≠ u))) (upd (upd D c (nI e)) u (nI d))) 9 0 := funext fun e => Cn_split A u L _ hn hu
      rw [ih, Sm_swap]
      congr 1
      funext d
      rw [Cn]
      congr 1
      funext e
      rw [upd_comm _ hq]
theorem Sm_congr {f g : Nat → Nat} : ∀ k e, (∀ x, e < x → x ≤ e + k → f x = g x) → Sm f k e = Sm g k e
  | 0, _, _ => rfl
  | k + 1, e, h => by rw [Sm, Sm, h (e + 1) (by omega) (by omega), Sm_congr k (e + 1) (fun x h1 h2 => h x (by omega) (by omega))]
def fillN : List Nat → Nat → (Nat → Int32) → (Nat → Int32)
  | [], _, D => D
  | c :: L, v, D => fillN L (v / 9) (upd D c (nI (v % 9 + 1)))
theorem fillN_congr : ∀ (L : List Nat) (v : Nat) (D E : Nat → Int32), (∀ x, x < 16 → x ∉ L → D x = E x) → ∀ x, x < 16 → fillN L v D x = fillN L v E x
  | [], v, D, E, h, x, hx => h x hx (by simp)
  | c :: L, v, D, E, h, x, hx => by
    rw [fillN, fillN]
    refine fillN_congr L (v / 9) _ _ (fun y hy hyL => ?_) x hx
    by_cases hq : y = c
    · rw [hq, upd_eq, upd_eq]
    · rw [upd_ne _ _ hq, upd_ne _ _ hq]; exact h y hy (by simp [hq, hyL])
theorem fillN_off : ∀ (L : List Nat) (v : Nat) (D : Nat → Int32) (x : Nat), x ∉ L → fillN L v D x = D x
  | [], v, D, x, _ => rfl
  | c :: L, v, D, x, h => by
    rw [List.mem_cons, not_or] at h
    rw [fillN, fillN_off L (v / 9) _ x h.2, upd_ne _ _ h.1]
def Su (g : Nat → Nat) : Nat → Nat
  | 0 => 0
  | n + 1 => Su g n + g n
theorem Su_block (g : Nat → Nat) : ∀ M, Su g (9 * M) = Sm (fun d => Su (fun m => g (9 * m + (d - 1))) M) 9 0
  | 0 => by simp [Su, Sm]
  | M + 1 => by
    have ih := Su_block g M
    have e : Su g (9 * (M + 1)) = Su g (9 * M) + g (9 * M) + g (9 * M + 1) + g (9 * M + 2) + g (9 * M + 3) + g (9 * M + 4) + g (9 * M + 5) + g (9 * M + 6) + g (9 * M + 7) + g (9 * M + 8) := by
      show Su g (9 * M + 1 + 1 + 1 + 1 + 1 + 1 + 1 + 1 + 1) = _
      simp only [Su]
    rw [e, ih]
    simp only [Sm, Su, Nat.add_zero, Nat.zero_add]
    simp only [Nat.add_sub_cancel, Nat.reduceSub, Nat.reduceAdd, Nat.add_zero]
    omega
theorem Su_congr {f g : Nat → Nat} : ∀ n, (∀ x, x < n → f x = g x) → Su f n = Su g n
  | 0, _ => rfl
  | n + 1, h => by rw [Su, Su, Su_congr n (fun x hx => h x (by omega)), h n (by omega)]
theorem Su_fill (A : (Nat → Int32) → Bool) : ∀ (L : List Nat) (D : Nat → Int32), Su (fun n => if A (fillN L n D) = true then 1 else 0) (9 ^ L.length) = Cn A L D
  | [], D => by
    rw [Cn, List.length_nil, Nat.pow_zero]
    show 0 + _ = _
    rw [Nat.zero_add]; rfl
  | c :: L, D => by
    rw [List.length_cons, Nat.pow_succ, Nat.mul_comm, Su_block, Cn]
    refine Sm_congr 9 0 fun d h1 h2 => ?_
    rw [← Su_fill A L]
    refine Su_congr _ fun m _ => ?_
    have e1 : (9 * m + (d - 1)) / 9 = m := by omega
    have e2 : (9 * m + (d - 1)) % 9 + 1 = d := by omega
    rw [fillN, e1, e2]
theorem Su_split (g : Nat → Nat) (i : Nat) : ∀ k, Su g (i + k) = Su g i + Su (fun m => g (i + m)) k
  | 0 => rfl
  | k + 1 => by
    rw [← Nat.add_assoc, Su, Su, Su_split g i k]; omega
