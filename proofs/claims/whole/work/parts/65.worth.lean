/-! ===== the law's knots by a stack ===== -/
def SO (f h : Int → Int) : List Int → Prop
  | [] => True
  | x :: s => h s.length = f x ∧ SO f h s
theorem SO.same {f g h k : Int → Int} : ∀ (s : List Int), SO f h s → (∀ j : Int, 0 ≤ j → j < s.length → k j = h j) → (∀ x ∈ s, g x = f x) → SO g k s := by
  intro s
  induction s with
  | nil => intro _ _ _; trivial
  | cons x s ih =>
    intro hs h1 h2
    refine ⟨?_, ih hs.2 (fun j a b => h1 j a (by simp only [List.length_cons]; omega)) (fun y hy => h2 y (by simp [hy]))⟩
    rw [h1 _ (by omega) (by simp only [List.length_cons]; omega), h2 x (by simp), hs.1]
def nmo (rise here reeds way t : Int) : Int → Int := fun j => if j = 0 then rise else if j = 1 then here else if j = 2 then reeds else if j = 3 then way else t
/-- what a law is worth: the class's answer -/
def wth (r : Mh) (nm : Int → Int) : Option Int := match evs r nm (r 0 20).toNat with
  | none => none
  | some f => some (f (r 0 20 - 1))
theorem isP_law {p : Int} (h : isP p) : (shC (p + 37 + 1)).2 = 64 ∧ (shC (p + 37 + 2)).2 = 64 ∧ (shC (p + 37 + 3)).2 = 64 ∧ (shC (p + 37 + 4)).2 = 6 := by rcases h with e | e <;> rw [e] <;> decide
theorem evs_none {r : Mh} {nm : Int → Int} {n : Nat} (h : evs r nm n = none) : ∀ k : Nat, evs r nm (n + k) = none := by
  intro k
  induction k with
  | zero => exact h
  | succ k ih =>
    show evs r nm ((n + k) + 1) = none
    unfold evs
    rw [ih]
def knotP (g r : Mh) (p i : Int) (s t : List Int) : Prop := g (p + 38) i = cdk (r 23 i) (r 24 i) ∧
  ((r 23 i = 0 ∧ g (p + 39) i = r 24 i ∧ 0 ≤ r 24 i ∧ r 24 i ≤ 9999 ∧ t = i :: s) ∨ (r 23 i = 1 ∧ 0 ≤ r 24 i ∧ r 24 i ≤ 4 ∧ t = i :: s) ∨ (r 23 i = 2 ∧ ∃ u, s = r 24 i :: u ∧ t = i :: u) ∨ (3 ≤ r 23 i ∧ r 23 i ≤ 14 ∧ ∃ u, s = r 25 i :: r 24 i :: u ∧ t = i :: u))
theorem sp_worthG {sh : Int → Nat × Nat} {r g : Mh} {p rise here reeds way t : Int} {sk : Nat → List Int} {K : Int → Mh → Prop} (l1 : g (p + 37) 4 = r 0 20) (l3 : r 0 20 ≤ 64) (s0 : sk 0 = []) (sK : ∀ i : Nat, (i : Int) < r 0 20 → knotP g r p i (sk i) (sk (i + 1))) (sE : 0 < r 0 20 → ∃ x, sk (r 0 20).toNat = [x])
    (z1 : Unit → (sh (p + 37 + 1)).2 = 64) (z2 : Unit → (sh (p + 37 + 2)).2 = 64) (z3 : Unit → (sh (p + 37 + 3)).2 = 64) (z4 : Unit → (sh (p + 37 + 4)).2 = 6) (h0 : 0 < r 0 20) (hn : ∀ j, okV (nmo rise here reeds way t j))
    (hk : ∀ g', (∀ o, o ≠ p + 40 → o ≠ p + 41 → g' o = g o) → K (match wth r (nmo rise here reeds way t) with | none => -9223372036854775808 | some v => v) g') : wp_X3_worth sh (p + 37) rise here reeds way t g K := by
  have eq38 : Unit → p + 37 + 1 = p + 38 := fun _ => by omega
  have eq39 : Unit → p + 37 + 2 = p + 39 := fun _ => by omega
  have eq40 : Unit → p + 37 + 3 = p + 40 := fun _ => by omega
  have eq41 : Unit → p + 37 + 4 = p + 41 := fun _ => by omega
  obtain ⟨nm, enm⟩ : ∃ nm, nm = nmo rise here reeds way t := ⟨_, rfl⟩
  rw [← enm] at hn hk
  have hnm := hn
  -- the walk
  let Fr : Mh → Prop := fun u => (∀ o, o ≠ p + 40 → o ≠ p + 41 → u o = g o) ∧ ∀ j, 0 ≤ j → j ≤ 4 → u (p + 41) (j + 1) = nm j
  have bad : ∀ (i : Nat) (u : Mh), (i : Int) ≤ r 0 20 → evs r nm i = none → Fr u → K (-9223372036854775808) u := by
    intro i u hi he hu
    have := hk u (fun o a b => hu.1 o a b)
    unfold wth at this
    have e2 : evs r nm (r 0 20).toNat = none := by
      have := evs_none he ((r 0 20).toNat - i)
      rw [show i + ((r 0 20).toNat - i) = (r 0 20).toNat by omega] at this
      exact this
    rw [e2] at this
    exact this
  have loop : ∀ (n : Nat) (i : Nat) (f : Int → Int) (u : Mh), (i : Int) + n = r 0 20 → evs r nm i = some f → (∀ x, okV (f x)) → Fr u → SO f (u (p + 40)) (sk i) → (∀ x ∈ sk i, 0 ≤ x ∧ x < i) → (sk i).length ≤ i → (0 < i → ∃ s, sk i = ((i : Int) - 1) :: s) → Lfp (F_X3_worth sh (p + 37) rise here reeds way t K) (48, [((sk i).length : Int), i], u) := by
    intro n
    induction n with
    | zero =>
      intro i f u hn he hf hu hS hx hl htop
      apply L_X3_worth_48
      unfold B_X3_worth_48
      have e37 : u (p + 37) = g (p + 37) := hu.1 _ (by omega) (by omega)
      rw [e37, l1, if_pos (by omega)]
      obtain ⟨x, ex⟩ := sE h0
      have ei : i = (r 0 20).toNat := by omega
      obtain ⟨s, es⟩ := htop (by omega)
      rw [ei, ex] at es
      have ex1 : x = r 0 20 - 1 := by
        have := (List.cons.inj es).1
        omega
      rw [← ei] at ex
      rw [ex, if_neg (by simp)]
      refine ⟨⟨by decide, by rw [z3 ()]; decide⟩, ?_⟩
      rw [ex] at hS
      have h40 : u (p + 40) 0 = f x := hS.1
      rw [eq40 (), h40]
      have := hk u (fun o a b => hu.1 o a b)
      unfold wth at this
      rw [← ei, he] at this
      rw [ex1]
      exact this
    | succ n ih =>
      intro i f u hn he hf hu hS hx hl htop
      apply L_X3_worth_48
      unfold B_X3_worth_48
      have e37 : u (p + 37) = g (p + 37) := hu.1 _ (by omega) (by omega)
      have e38 : u (p + 38) = g (p + 38) := hu.1 _ (by omega) (by omega)
      have e39 : u (p + 39) = g (p + 39) := hu.1 _ (by omega) (by omega)
      rw [e37, l1, if_neg (by omega), if_neg (by omega), eq38 (), e38]
      refine ⟨⟨by omega, by rw [← eq38 (), z1 ()]; omega⟩, ?_⟩
      obtain ⟨kc, kk⟩ := sK i (by omega)
      rw [kc]
      intro cd ecd
      have he1 : evs r nm (i + 1) = (match kv nm (r 23 i) (r 24 i) (f (r 24 i)) (f (r 25 i)) with | none => none | some v => some (fun j => if j = (i : Int) then v else f j)) := by
        unfold evs
        rw [he]
        rfl
      -- what comes behind the value
      have push : ∀ (lab : Nat) (at_ : Int) (s : List Int) (x : Int) (u' : Mh), (lab = 213 ∨ lab = 160) → Fr u' → sk (i + 1) = (i : Int) :: s → at_ = s.length → (∀ y ∈ s, 0 ≤ y ∧ y < i) → s.length ≤ i → SO f (u' (p + 40)) s → (match kv nm (r 23 i) (r 24 i) (f (r 24 i)) (f (r 25 i)) with | none => ¬ okV x | some v => x = v) → (∀ v, kv nm (r 23 i) (r 24 i) (f (r 24 i)) (f (r 25 i)) = some v → okV v) → Lfp (F_X3_worth sh (p + 37) rise here reeds way t K) (lab, [(i : Int), at_, x], u') := by
        intro lab at_ s x u' hlab hu' hs hat hys hsl hso hv hvo
        have body : if 0 < j_cmp x 1000000000000 then (K (-9223372036854775808) u') else (if 0 ≤ j_cmp x (-1000000000000) then (((0 : Int) ≤ at_ ∧ at_ < (((sh (p + 37 + 3)).2 : Int) : Int)) ∧ ∀ h1 : Mh, h1 = up u' (p + 37 + 3) at_ x → ∀ x1 : Int, x1 = w32 (at_ + 1) → ∀ x2 : Int, x2 = w32 ((i : Int) + 1) → Lfp (F_X3_worth sh (p + 37) rise here reeds way t K) (48, [x1, x2], h1)) else (K (-9223372036854775808) u')) := by
          simp only [j_cmp_gt, j_cmp_ge]
          cases hkv : kv nm (r 23 i) (r 24 i) (f (r 24 i)) (f (r 25 i)) with
          | none =>
            rw [hkv] at hv he1
            have hb := bad (i + 1) u' (by omega) he1 hu'
            have hv2 : ¬ (-1000000000000 ≤ x ∧ x ≤ 1000000000000) := hv
            by_cases y1 : 1000000000000 < x
            · rw [if_pos y1]; exact hb
            · rw [if_neg y1, if_neg (by omega)]; exact hb
          | some v =>
            rw [hkv] at hv he1
            have hvv : x = v := hv
            have hok : -1000000000000 ≤ x ∧ x ≤ 1000000000000 := by rw [hvv]; exact hvo v hkv
            rw [if_neg (by omega), if_pos (by omega), z3 (), eq40 ()]
            refine ⟨⟨by omega, by omega⟩, ?_⟩
            intro u2 e2 x1 ex1 x2 ex2
            rw [w32_eq (by omega) (by omega)] at ex1
            rw [w32_eq (by omega) (by omega)] at ex2
            have ih2 := ih (i + 1) (fun j => if j = (i : Int) then v else f j) u2 (by omega) he1 (fun y => by by_cases z : y = (i : Int); rw [if_pos z, ← hvv]; exact hok; rw [if_neg z]; exact hf y) ⟨fun o a b => by rw [e2, up_other a, hu'.1 o a b], fun j j0 j1 => by rw [e2, up_other (by omega)]; exact hu'.2 j j0 j1⟩ ?_ ?_ ?_ ?_
            · rw [hs] at ih2
              rw [ex1, ex2, hat]
              have el : (((i : Int) :: s).length : Int) = (s.length : Int) + 1 := by simp
              rw [el, show ((i + 1 : Nat) : Int) = (i : Int) + 1 by omega] at ih2
              exact ih2
            · rw [hs]
              refine ⟨?_, SO.same s hso (fun j j0 j1 => by rw [e2]; exact up_slot (by omega)) (fun y hy => ?_)⟩
              · rw [e2, ← hat, up_self, hvv]
                simp
              · have := hys y hy
                rw [if_neg (by omega)]
            · rw [hs]
              intro y hy
              rcases List.mem_cons.mp hy with e | e
              · rw [e]; omega
              · have := hys y e; omega
            · rw [hs]
              simp only [List.length_cons]
              omega
            · intro _
              exact ⟨s, by rw [hs]; congr 1; omega⟩
        rcases hlab with rfl | rfl
        · apply L_X3_worth_213
          unfold B_X3_worth_213
          exact body
        · apply L_X3_worth_160
          unfold B_X3_worth_160
          exact body
      have wl : w32 (((sk i).length : Int) - 0) = ((sk i).length : Int) := by rw [w32_eq (by omega) (by omega)]; omega
      rcases kk with ⟨k0, k1, k2, k3, k4⟩ | ⟨k0, k1, k2, k3⟩ | ⟨k0, v, k1, k2⟩ | ⟨k0, k1, v, k2, k3⟩
      · -- a number
        have cd0 : cd = 0 := by rw [ecd, k0]; rfl
        rw [if_neg (by omega)]
        apply L_X3_worth_95
        unfold B_X3_worth_95
        rw [wl]
        intro x1 ex1
        rw [if_neg (by omega), if_neg (by omega), if_neg (by omega), if_pos (by omega), if_neg (fun z => z rfl), if_neg (fun z => z cd0), eq39 (), e39, k1]
        refine ⟨⟨by omega, by rw [← eq39 (), z2 ()]; omega⟩, ?_⟩
        have hkv : kv nm (r 23 i) (r 24 i) (f (r 24 i)) (f (r 25 i)) = some (r 24 i) := by unfold kv; rw [if_pos k0]
        refine push 160 x1 (sk i) (r 24 i) u (Or.inr rfl) hu k4 ex1 hx hl hS (by rw [hkv]) (fun v hv => ?_)
        rw [hkv] at hv
        rw [← Option.some.inj hv]
        unfold okV; omega
      · -- a name
        have cd1 : cd = r 24 i + 1 := by rw [ecd, k0]; rfl
        rw [if_neg (by omega)]
        apply L_X3_worth_95
        unfold B_X3_worth_95
        rw [wl]
        intro x1 ex1
        rw [if_neg (by omega), if_neg (by omega), if_neg (by omega), if_pos (by omega), if_neg (fun z => z rfl), if_pos (by omega), eq41 (), cd1, hu.2 _ k1 k2]
        refine ⟨⟨by omega, by rw [← eq41 (), z4 ()]; omega⟩, ?_⟩
        have hkv : kv nm (r 23 i) (r 24 i) (f (r 24 i)) (f (r 25 i)) = some (nm (r 24 i)) := by unfold kv; rw [if_neg (by omega), if_pos k0]
        refine push 160 x1 (sk i) (nm (r 24 i)) u (Or.inr rfl) hu k3 ex1 hx hl hS (by rw [hkv]) (fun v hv => ?_)
        rw [hkv] at hv
        rw [← Option.some.inj hv]
        exact hnm _
      · -- not
        have cd6 : cd = 6 := by rw [ecd, k0]; rfl
        rw [if_pos (by omega), if_neg (fun z => z cd6)]
        apply L_X3_worth_95
        unfold B_X3_worth_95
        have hlen : ((sk i).length : Int) = (v.length : Int) + 1 := by rw [k1]; simp
        rw [hlen, show w32 ((v.length : Int) + 1 - 1) = (v.length : Int) by rw [w32_eq (by omega) (by omega)]; omega]
        intro x1 ex1
        rw [k1] at hS hx
        have fa : u (p + 40) (v.length : Int) = f (r 24 i) := hS.1
        rw [if_neg (by omega), if_neg (by omega), if_neg (by omega), if_pos (by omega), if_pos (by decide), if_neg (fun z => z rfl), eq40 (), ex1, fa]
        refine ⟨⟨by omega, by rw [← eq40 (), z3 ()]; omega⟩, ?_⟩
        have hkv : kv nm (r 23 i) (r 24 i) (f (r 24 i)) (f (r 25 i)) = some (if f (r 24 i) = 0 then 1 else 0) := by unfold kv; rw [if_neg (by omega), if_neg (by omega), if_pos k0]
        have l188 : ∀ x, (x = if f (r 24 i) = 0 then 1 else 0) → Lfp (F_X3_worth sh (p + 37) rise here reeds way t K) (188, [(i : Int), (v.length : Int), x], u) := by
          intro x ex
          apply L_X3_worth_188
          unfold B_X3_worth_188
          refine push 213 _ v x u (Or.inl rfl) hu k2 rfl (fun y hy => hx y (by simp [hy])) (by omega) hS.2 (by rw [hkv]; exact ex) (fun w hw => ?_)
          rw [hkv] at hw
          rw [← Option.some.inj hw]
          unfold okV
          split <;> omega
        simp only [j_cmp_eq]
        by_cases y : f (r 24 i) = 0
        · rw [if_neg (fun z => z y)]; exact l188 1 (by rw [if_pos y])
        · rw [if_pos y]; exact l188 0 (by rw [if_neg y])
      · -- two sides
        have cdx : 6 < cd := by
          rw [ecd]
          unfold cdk
          rw [if_neg (by omega), if_neg (by omega)]
          by_cases y3 : r 23 i = 3
          · rw [if_pos y3]; decide
          · rw [if_neg y3]
            by_cases y4 : r 23 i = 4
            · rw [if_pos y4]; decide
            · rw [if_neg y4]; omega
        rw [if_pos (by omega), if_pos (by omega)]
        apply L_X3_worth_95
        unfold B_X3_worth_95
        have hlen : ((sk i).length : Int) = (v.length : Int) + 2 := by rw [k2]; simp; omega
        rw [hlen, show w32 ((v.length : Int) + 2 - 2) = (v.length : Int) by rw [w32_eq (by omega) (by omega)]; omega]
        intro x1 ex1
        rw [k2] at hS hx
        have fb' : u (p + 40) ((v.length : Int) + 1) = f (r 25 i) := by
          have := hS.1
          simpa using this
        have fa : u (p + 40) (v.length : Int) = f (r 24 i) := hS.2.1
        rw [if_neg (by omega), if_neg (by omega), if_neg (by omega), if_pos (by omega), if_pos (by decide), if_pos (by decide), eq40 (), ex1, fa, w32_eq (x := (v.length : Int) + 1) (by omega) (by omega), fb', ← eq40 (), z3 ()]
        refine ⟨⟨by omega, by omega⟩, ⟨by omega, by omega⟩, ?_⟩
        rw [ecd]
        refine sp_joined (nm := nm) k0 k1 (hf _) (hf _) ?_
        intro x hxv
        refine push 213 _ v x u (Or.inl rfl) hu k3 rfl (fun y hy => hx y (by simp [hy])) (by omega) hS.2.2 hxv (fun w hw => ?_)
        have hp24 : okV (r 24 i) := by
          have := hx (r 24 i) (by simp)
          unfold okV; omega
        exact kv_ok (hnm _) hp24 (hf _) hw
  unfold wp_X3_worth
  rw [z4 ()]
  refine ⟨⟨by decide, by decide⟩, ?_⟩
  intro u1 e1
  refine ⟨⟨by decide, by decide⟩, ?_⟩
  intro u2 e2
  refine ⟨⟨by decide, by decide⟩, ?_⟩
  intro u3 e3
  refine ⟨⟨by decide, by decide⟩, ?_⟩
  intro u4 e4
  refine ⟨⟨by decide, by decide⟩, ?_⟩
  intro u5 e5
  rw [eq41 ()] at e1 e2 e3 e4 e5
  have ini := loop (r 0 20).toNat 0 (fun _ => 0) u5 (by omega) rfl (fun x => by unfold okV; omega) ⟨fun o a b => by rw [e5, up_other b, e4, up_other b, e3, up_other b, e2, up_other b, e1, up_other b], fun j j0 j1 => ?_⟩ (by rw [s0]; trivial) (by rw [s0]; intro x hx; cases hx) (by rw [s0]; exact Nat.le_refl _) (fun z => by omega)
  · rw [s0] at ini
    exact ini
  · have hj : j = 0 ∨ j = 1 ∨ j = 2 ∨ j = 3 ∨ j = 4 := by omega
    rcases hj with rfl | rfl | rfl | rfl | rfl
    · rw [e5, up_slot (by decide), e4, up_slot (by decide), e3, up_slot (by decide), e2, up_slot (by decide), e1]; rw [enm]; exact up_self
    · rw [e5, up_slot (by decide), e4, up_slot (by decide), e3, up_slot (by decide), e2]; rw [enm]; exact up_self
    · rw [e5, up_slot (by decide), e4, up_slot (by decide), e3]; rw [enm]; exact up_self
    · rw [e5, up_slot (by decide), e4]; rw [enm]; exact up_self
    · rw [e5]; rw [enm]; exact up_self
theorem sp_worth {r g : Mh} {rise here reeds way t : Int} {K : Int → Mh → Prop} (hL : RLaw g r) (hp : isP (g 53 0)) (h0 : 0 < r 0 20) (hn : ∀ j, okV (nmo rise here reeds way t j))
    (hk : ∀ g', (∀ o, o ≠ g 53 0 + 40 → o ≠ g 53 0 + 41 → g' o = g o) → K (match wth r (nmo rise here reeds way t) with | none => -9223372036854775808 | some v => v) g') : wp_X3_worth shC (g 53 0 + 37) rise here reeds way t g K := by
  obtain ⟨l1, l2, l3, l4, sk, s0, sK, sE⟩ := hL
  obtain ⟨z1, z2, z3, z4⟩ := isP_law hp
  exact sp_worthG l1 l3 s0 sK sE (fun _ => z1) (fun _ => z2) (fun _ => z3) (fun _ => z4) h0 hn hk
