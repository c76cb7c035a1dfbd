/-! ===== how far: neighbours and ways over a third cell ===== -/
section
variable {w hh : Int} {g : Int → Int} {loss thick a : Int}
theorem lev_path (l0 : 0 ≤ loss) (t0 : 0 ≤ thick) (ha : wat w hh g a) : ∀ (n : Nat) (b : Int), n < 900 → Lv w hh g loss thick a n b → ∃ p : Int → Int, ∀ i : Nat, i ≤ n → (0 ≤ p i ∧ p i < w * hh) ∧ Lv w hh g loss thick a i (p i) := by
  intro n
  induction n with
  | zero =>
    intro b _ h
    refine ⟨fun _ => a, fun i hi => ?_⟩
    have : i = 0 := by omega
    rw [this]
    exact ⟨⟨ha.1, ha.2.1⟩, Lv_zero.mpr rfl⟩
  | succ n ih =>
    intro b hn h
    obtain ⟨b0, b1, b2, b3, v, v0, v1, x0, x1⟩ := (Lv_succ l0 t0 (by omega)).mp h
    obtain ⟨p, hp⟩ := ih _ (by omega) x1
    refine ⟨fun i => if i = ((n + 1 : Nat) : Int) then b else p i, fun i hi => ?_⟩
    dsimp only
    by_cases z : i = n + 1
    · rw [z, if_pos rfl]
      exact ⟨⟨b0, b1⟩, h⟩
    · rw [if_neg (by omega)]
      exact hp i (by omega)
theorem lev_le (hs : szs w hh) (l0 : 0 ≤ loss) (t0 : 0 ≤ thick) (ha : wat w hh g a) {n : Nat} {b : Int} (hn : n < 900) (h : Lv w hh g loss thick a n b) : n ≤ 47 := by
  have hm := szs_mul hs
  obtain ⟨p, hp⟩ := lev_path l0 t0 ha n b hn h
  have := few (f := p) (w * hh).toNat (n + 1) (fun i i0 i1 => by
    have := (hp i.toNat (by omega)).1
    rw [show ((i.toNat : Nat) : Int) = i by omega] at this
    exact ⟨this.1, by omega⟩) (fun i j i0 i1 j0 j1 e => by
    have h1 := (hp i.toNat (by omega)).2
    have h2 := (hp j.toNat (by omega)).2
    rw [show ((i.toNat : Nat) : Int) = i by omega] at h1
    rw [show ((j.toNat : Nat) : Int) = j by omega, ← e] at h2
    have := Lv.uniq h1 h2
    omega)
  omega
/-- how far, finite or 999 -/
theorem far_lv {b : Int} (h : (DD w hh g loss thick a 47 b).1 ≠ 999) : ∃ m : Nat, m ≤ 47 ∧ Lv w hh g loss thick a m b ∧ (DD w hh g loss thick a 47 b).1 = m := by
  obtain ⟨m, h1, h2⟩ := DD_lv 47 b (by decide) h
  refine ⟨m, h1, h2, ?_⟩
  rw [h2.later h1]
  exact h2
theorem far_of_lv (hs : szs w hh) (l0 : 0 ≤ loss) (t0 : 0 ≤ thick) (ha : wat w hh g a) {n : Nat} {b : Int} (hn : n < 900) (h : Lv w hh g loss thick a n b) : (DD w hh g loss thick a 47 b).1 = n := by
  have := lev_le hs l0 t0 ha hn h
  rw [h.later this]
  exact h
/-- a cell beside one that is n far is at most one farther -/
theorem far_next (hs : szs w hh) (l0 : 0 ≤ loss) (t0 : 0 ≤ thick) (ha : wat w hh g a) {b v : Int} (hb : wat w hh g b) (v0 : 1 ≤ v) (v1 : v < 5) (hx : 0 ≤ nx w hh g b v) (hf : (DD w hh g loss thick a 47 (nx w hh g b v)).1 ≠ 999) : (DD w hh g loss thick a 47 b).1 ≠ 999 ∧ (DD w hh g loss thick a 47 b).1 ≤ (DD w hh g loss thick a 47 (nx w hh g b v)).1 + 1 := by
  obtain ⟨m, m1, m2, m3⟩ := far_lv hf
  rw [m3]
  by_cases z : (DD w hh g loss thick a m b).1 = 999
  · have h := (Lv_succ (n := m) (b := b) l0 t0 (by omega)).mpr ⟨hb.1, hb.2.1, hb.2.2, z, v, v0, v1, hx, m2⟩
    have e := far_of_lv hs l0 t0 ha (by omega) h
    rw [e]
    omega
  · obtain ⟨k, k1, k2⟩ := DD_lv m b (by omega) z
    have e := far_of_lv hs l0 t0 ha (by omega) k2
    rw [e]
    omega
end
section
variable {w hh : Int} {g : Int → Int} {loss thick : Int}
/-- over a third cell it is no nearer -/
theorem far_tri (hs : szs w hh) (l0 : 0 ≤ loss) (t0 : 0 ≤ thick) {a h : Int} (ha : wat w hh g a) (hh' : wat w hh g h) (hf : (DD w hh g loss thick a 47 h).1 ≠ 999) : ∀ (n : Nat) (c : Int), n < 900 → Lv w hh g loss thick h n c → (DD w hh g loss thick a 47 c).1 ≠ 999 ∧ (DD w hh g loss thick a 47 c).1 ≤ (DD w hh g loss thick a 47 h).1 + n := by
  intro n
  induction n with
  | zero =>
    intro c _ hc
    have := Lv_zero.mp hc
    rw [← this]
    exact ⟨hf, by omega⟩
  | succ n ih =>
    intro c hn hc
    obtain ⟨b0, b1, b2, b3, v, v0, v1, x0, x1⟩ := (Lv_succ l0 t0 (by omega)).mp hc
    obtain ⟨i1, i2⟩ := ih _ (by omega) x1
    have := far_next hs l0 t0 ha ⟨b0, b1, b2⟩ v0 v1 x0 i1
    exact ⟨this.1, by omega⟩
end
theorem FA_tri {r : Mh} (hp : prm r) {a h c : Int} (hf : (FA r a h).1 ≠ 999) (hg : (FA r h c).1 ≠ 999) : (FA r a c).1 ≠ 999 ∧ (FA r a c).1 ≤ (FA r a h).1 + (FA r h c).1 := by
  have ha : watR r a := by
    by_cases z : watR r a
    · exact z
    · exfalso; apply hf; unfold FA; rw [if_neg z]
  have hh : watR r h := by
    by_cases z : watR r h
    · exact z
    · exfalso; apply hg; unfold FA; rw [if_neg z]
  have ea : ∀ b, FA r a b = DD (r 0 12) (r 0 13) (r 5) (r 0 21) (r 0 22) a 47 b := fun b => by unfold FA; rw [if_pos ha]
  have eh : ∀ b, FA r h b = DD (r 0 12) (r 0 13) (r 5) (r 0 21) (r 0 22) h 47 b := fun b => by unfold FA; rw [if_pos hh]
  rw [ea] at hf
  rw [eh] at hg
  obtain ⟨m, m1, m2, m3⟩ := far_lv hg
  have := far_tri hp.1 hp.2.1.1 hp.2.2.1 ha hh hf m c (by omega) m2
  rw [ea, ea, eh, m3]
  exact this
theorem FA_next {r : Mh} (hp : prm r) {a b v : Int} (hb : watR r b) (v0 : 1 ≤ v) (v1 : v < 5) (hx : 0 ≤ nxR r b v) (hf : (FA r a (nxR r b v)).1 ≠ 999) : (FA r a b).1 ≠ 999 ∧ (FA r a b).1 ≤ (FA r a (nxR r b v)).1 + 1 := by
  have ha : watR r a := by
    by_cases z : watR r a
    · exact z
    · exfalso; apply hf; unfold FA; rw [if_neg z]
  have ea : ∀ b, FA r a b = DD (r 0 12) (r 0 13) (r 5) (r 0 21) (r 0 22) a 47 b := fun b => by unfold FA; rw [if_pos ha]
  rw [ea] at hf
  rw [ea, ea]
  exact far_next hp.1 hp.2.1.1 hp.2.2.1 ha hb v0 v1 hx hf
/-- no ripple is there ahead of its time -/
theorem rgiv_early {r : Mh} (hp : prm r) {k a c n : Int} (h : (FA r a c).1 = 999 ∨ n < (FA r a c).1) : rgiv r k a c n = 0 := by
  have rs0 : ∀ m, m < 0 → rsf (r 10 k) (fun j => r 12 (6 * k + j)) m = 0 := fun m hm => by unfold rsf; rw [if_pos hm]
  have fr := (FA_r hp a c).1
  have hv : ∀ x, via (FA r) (rsf (r 10 k) (fun j => r 12 (6 * k + j))) (r 0 23) a c n x = 0 := by
    intro x
    unfold via
    by_cases z : (FA r a x).1 = 999 ∨ (FA r x c).1 = 999
    · rw [if_pos z]
    · rw [if_neg z]
      have tr := FA_tri hp (a := a) (h := x) (c := c) (fun y => z (Or.inl y)) (fun y => z (Or.inr y))
      have : n - (FA r a x).1 - (FA r x c).1 < 0 := by
        rcases h with y | y
        · exact absurd y tr.1
        · omega
      rw [rs0 _ this]
      simp [prt_zero]
  have hvs : ∀ (m : Nat) (i : Int), vias (FA r) (rsf (r 10 k) (fun j => r 12 (6 * k + j))) (r 0 23) a c n (r 32) m i = 0 := by
    intro m
    induction m with
    | zero => intro i; rfl
    | succ m ih => intro i; unfold vias; rw [hv, ih]; rfl
  unfold rgiv giv
  rw [hvs]
  unfold dir
  by_cases z : (FA r a c).1 = 999
  · rw [if_pos z]; rfl
  · rw [if_neg z, rs0 _ (by rcases h with y | y; exact absurd y z; omega), prt_zero]; rfl
/-- the sums with a lie -/
def Fl (r : Mh) (k a t0 : Int) : Int → Int → Int := fun c t => lsum r c t + rgiv r k a c (t - t0)
theorem drv_congr {r : Mh} {F G : Int → Int → Int} {c v t : Int} (h1 : F (nxR r c v) t = G (nxR r c v) t) (h2 : F c t = G c t) : drv r F c v t = drv r G c v t := by
  unfold drv
  rw [show F (nx (r 0 12) (r 0 13) (r 5) c v) t = G (nx (r 0 12) (r 0 13) (r 5) c v) t from h1, h2]
theorem nw_congr {N W V : Int → Int} : ∀ (n : Nat) (v : Int) (S : Int × Int), (∀ j, v ≤ j → j < v + n → 0 ≤ N j → W j = V j) → nw N W n v S = nw N V n v S := by
  intro n
  induction n with
  | zero => intro v S _; rfl
  | succ n ih =>
    intro v S h
    unfold nw
    have e : (if 0 ≤ N v ∧ S.2 < W v then (N v, W v) else S) = (if 0 ≤ N v ∧ S.2 < V v then (N v, V v) else S) := by
      by_cases z : 0 ≤ N v
      · rw [h v (by omega) (by omega) z]
      · rw [if_neg (fun y => z y.1), if_neg (fun y => z y.1)]
    rw [e]
    exact ih (v + 1) _ (fun j a b => h j (by omega) (by omega))
theorem nxt_congr {r : Mh} {F G : Int → Int → Int} {c t : Int} (h2 : F c t = G c t) (hn : ∀ v, 1 ≤ v → v < 5 → 0 ≤ nxR r c v → F (nxR r c v) t = G (nxR r c v) t) (h0 : F (nxR r c 0) t = G (nxR r c 0) t) : nxt r F c t = nxt r G c t := by
  unfold nxt
  have e0 : wv r F c 0 t = wv r G c 0 t := by unfold wv; rw [drv_congr h0 h2]
  rw [e0, nw_congr (V := fun v => wv r G c v t) 4 1 _ (fun j a b z => ?_)]
  show wv r F c j t = wv r G c j t
  unfold wv
  rw [drv_congr (hn j a (by omega) z) h2]
/-- what isn't seen doesn't turn a skater -/
theorem nxt_unseen {r : Mh} (hp : prm r) {k a t0 c t : Int} (hc : watR r c) (h : (FA r a c).1 = 999 ∨ t < t0 + (FA r a c).1 - 1) : nxt r (Fl r k a t0) c t = nxt r (lsum r) c t := by
  have hs := hp.1
  have zero : ∀ d, ((FA r a d).1 = 999 ∨ t - t0 < (FA r a d).1) → Fl r k a t0 d t = lsum r d t := by
    intro d hd
    unfold Fl
    rw [rgiv_early hp hd]
    omega
  have hcc : Fl r k a t0 c t = lsum r c t := zero c (by omega)
  refine nxt_congr hcc (fun v v0 v1 hx => ?_) (by rw [nx_0 hs hc]; exact hcc)
  refine zero _ ?_
  by_cases z : (FA r a (nxR r c v)).1 = 999
  · exact Or.inl z
  · right
    have := FA_next hp (a := a) hc v0 v1 hx z
    rcases h with y | y
    · exact absurd y this.1
    · omega
