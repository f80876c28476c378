/-- what a push of a node of a kind keeps -/
def PC (h n : Int32) (W P : Nat → Int32) (hi n' : Int32) (W' P' : Nat → Int32) (hi' lo hi2 : Int32) : Prop := ∀ mark w : Int32, KR w lo hi2 → PTx h n W P hi mark w → PTx h n' W' P' hi' mark w
theorem PC_use {h n hi n' hi' lo hi2 mark w : Int32} {W P W' P' : Nat → Int32} (a : PC h n W P hi n' W' P' hi' lo hi2) (t : PTx h n W P hi mark w) (kr : KR w lo hi2) : PTx h n' W' P' hi' mark w := a mark w kr t
/-- what a statement's pile says, before and behind a push of something that may lie in a statement -/
def PUx (h n : Int32) (W P : Nat → Int32) (hi n' : Int32) (W' P' : Nat → Int32) (hi' : Int32) : Prop := ∀ mark w : Int32, 10 ≤ w → w ≤ 22 → PTx h n W P hi mark w → PTx h n' W' P' hi' mark w
theorem PU_use {h n hi n' hi' mark w : Int32} {W P W' P' : Nat → Int32} (a : PUx h n W P hi n' W' P' hi') (t : PTx h n W P hi mark w) (w0 : 10 ≤ w) (w9 : w ≤ 22) : PTx h n' W' P' hi' mark w := a mark w w0 w9 t
theorem PU_mk {h n m n' m' p hi n'' hi'' lo hi2 : Int32} {W P S R W' P' S' R' W'' P'' : Nat → Int32} (a : EXx h n W m P S R n' W' m' P' S' R' p) (c : PC h n' W' P' hi n'' W'' P'' hi'' lo hi2) (hp : hi.toInt ≤ p.toInt) (k : hi2 ≤ 9 ∨ (lo = 23 ∧ hi2 = 23)) : PUx h n W P hi n'' W'' P'' hi'' := by
  intro mark w w0 w9 t
  refine c mark w ?_ (PT_EX a t hp)
  unfold KR
  grind
theorem Ty_num {h n r lo hi : Int32} {W : Nat → Int32} (t : Tyx h n W r lo hi) : 0 ≤ r.toInt ∧ r.toInt < n.toInt := ⟨Int32.le_iff_toInt_le.mp t.1, Int32.lt_iff_toInt_lt.mp t.2.1⟩
theorem i3264 (x : Int32) : x.toInt64.toInt32 = x := by
  apply Int32.toInt_inj.mp
  have h1 := Int32.le_toInt x
  have h2 := Int32.toInt_lt x
  rw [Int64.toInt_toInt32, Int32.toInt_toInt64]
  exact Int.bmod_eq_of_le (by omega) (by omega)
theorem act_rng {v : Int64} (h0 : (0 : Int64) ≤ v) (h1 : lg_cmp v (64000 : Int64) < 0) : (0 : Int32) ≤ (v / (1000 : Int64)).toInt32 ∧ (v / (1000 : Int64)).toInt32 < 64 := by
  rw [lg_cmp_lt, Int64.lt_iff_toInt_lt, show (64000 : Int64).toInt = 64000 from rfl] at h1
  rw [Int64.le_iff_toInt_le, show (0 : Int64).toInt = 0 from rfl] at h0
  have e : (v / (1000 : Int64)).toInt = v.toInt / 1000 := lg_ldiv_nonneg h0 (by decide)
  have e2 : ((v / (1000 : Int64)).toInt32).toInt = v.toInt / 1000 := by
    rw [Int64.toInt_toInt32, e]; exact Int.bmod_eq_of_le (by omega) (by omega)
  rw [Int32.le_iff_toInt_le, Int32.lt_iff_toInt_lt, e2, show (0 : Int32).toInt = 0 from rfl, show (64 : Int32).toInt = 64 from rfl]
  omega
theorem g_step {x y c : Int32} {n : Nat} {F F' : Prop} (hm : (0 : Int) < ((n + 1 : Nat) : Int) ∧ (F → c.toInt - x.toInt < ((n + 1 : Nat) : Int))) (hF : F) (hx : x.toInt < c.toInt) (h : F' → x.toInt < y.toInt) : (0 : Int) < ((n : Nat) : Int) ∧ (F' → c.toInt - y.toInt < ((n : Nat) : Int)) := by
  have h1 := hm.2 hF
  refine ⟨by omega, fun f => ?_⟩
  have h2 := h f
  omega
theorem nm_mid {w x m : Int32} {X : Prop} (h0 : 2 ≤ w) (h9 : w ≤ 9) : NmOk w x m ∧ (w = 19 → X) := by
  refine ⟨⟨fun h => ?_, fun h => ?_⟩, fun h => ?_⟩
  · exfalso; grind
  · exfalso; grind
  · exfalso; grind
theorem c1001 : (1001 : Int32).toInt = 1001 := rfl
theorem c101 : (101 : Int32).toInt = 101 := rfl
theorem g_ent {x c : Int32} {F : Prop} (hc : c.toInt ≤ 1001) (h : F → 0 ≤ x.toInt) : (0 : Int) < ((5000 : Nat) : Int) ∧ (F → c.toInt - x.toInt < ((5000 : Nat) : Int)) := by
  refine ⟨by decide, fun f => ?_⟩
  have h1 := h f
  omega
theorem bb_of {h r : Int32} (q : (h = 0 ∧ r = 1000) ∨ (h = 1 ∧ r = 0)) : r = bb h := by grind [bb]
theorem ta {x y : Int32} (h1 : -100000 ≤ x.toInt + y.toInt) (h2 : x.toInt + y.toInt ≤ 100000) : (x + y).toInt = x.toInt + y.toInt := by
  rw [Int32.toInt_add]; exact Int.bmod_eq_of_le (by omega) (by omega)
theorem ts {x y : Int32} (h1 : -100000 ≤ x.toInt - y.toInt) (h2 : x.toInt - y.toInt ≤ 100000) : (x - y).toInt = x.toInt - y.toInt := by
  rw [Int32.toInt_sub]; exact Int.bmod_eq_of_le (by omega) (by omega)
theorem i1 : (1 : Int32).toInt = 1 := rfl
theorem l32 {x y : Int32} (h : x.toInt ≤ y.toInt) : x ≤ y := Int32.le_iff_toInt_le.mpr h
theorem bb_inI {h r a : Int32} (q : (h = 0 ∧ r = 1000) ∨ (h = 1 ∧ r = 0)) (a0 : 0 ≤ a.toInt) (a9 : a.toInt < 1000) : vp_in (r + a) 2000 := by
  have e0 : (0 : Int32).toInt = 0 := rfl
  have e1 : (1000 : Int32).toInt = 1000 := rfl
  rcases q with ⟨-, rfl⟩ | ⟨-, rfl⟩
  · have e : ((1000 : Int32) + a).toInt = 1000 + a.toInt := by rw [ta (by omega) (by omega), e1]
    exact vp_in_iff.mpr ⟨by omega, by omega⟩
  · have e : ((0 : Int32) + a).toInt = a.toInt := by rw [ta (by omega) (by omega), e0]; omega
    exact vp_in_iff.mpr ⟨by omega, by omega⟩
theorem bb_q {h : Int32} (hh : h = 0 ∨ h = 1) : (h = 0 ∧ bb h = 1000) ∨ (h = 1 ∧ bb h = 0) := by
  rcases hh with rfl | rfl
  · exact Or.inl ⟨rfl, by decide⟩
  · exact Or.inr ⟨rfl, by decide⟩
theorem h_in {h : Int32} (h0 : 0 ≤ h.toInt) (h9 : h.toInt ≤ 1000) : vp_in h 2000 := vp_in_iff.mpr ⟨h0, by omega⟩
theorem s_Mo_unitInS {z_this : T_Mo} {a1 : Int32} {post : Int32 → Unit → Prop} (p0 : z_this.1.2.1.2.1 = 0 ∨ z_this.1.2.1.2.1 = 1) (p1 : 0 ≤ a1.toInt ∧ a1.toInt < 1000) (hp : ∀ r u, True → post r u) : wp_Mo_unitIn z_this a1 post := by
  unfold wp_Mo_unitIn
  exact s_Mo_base p0 (fun r u hq => ⟨bb_inI hq p1.1 p1.2, hp _ _ trivial⟩)
theorem Fr_self (z : T_Mo) : Fr z z := ⟨rfl, rfl, rfl, rfl, rfl⟩
def Lx3 (z : T_Mo) : Prop := Lx2 z ∧ (z.1.1.1.2.2.2 = 999 → z.1.1.2.1.2 - z.1.1.2.1.1 ≤ 12) ∧ (z.1.1.1.2.2.2 = 2000 → VN z)
def FE (g z : T_Mo) : Prop := z.1.2.1.2.1 = g.1.2.1.2.1 ∧ z.2.1.2.2.2.2 = g.2.1.2.2.2.2 ∧ z.2.2.1.1.1 = g.2.2.1.1.1 ∧ z.2.2.1.1.2 = g.2.2.1.1.2 ∧ z.2.2.2.1.1 = g.2.2.2.1.1 ∧ FEa ((1000 : Int32) * z.1.2.1.2.1) g.1.2.1.2.2.2 g.1.2.2.1.1 g.1.2.2.2.1 g.1.2.2.2.2.1 g.1.2.2.2.2.2 g.2.1.1.1.2 z.1.2.1.2.2.2 z.1.2.2.1.1 z.1.2.2.2.1 z.1.2.2.2.2.1 z.1.2.2.2.2.2 z.2.1.1.1.2 ∧ FEb ((100 : Int32) * z.1.2.1.2.1) g.2.1.2.1.1 g.2.1.2.2.2.1 g.2.1.2.1.2 z.2.1.2.1.1 z.2.1.2.2.2.1 z.2.1.2.1.2
def Jn (z : T_Mo) : Prop := (z.1.2.1.2.1 = 0 ∨ z.1.2.1.2.1 = 1) ∧ 0 ≤ (z.1.2.1.2.2.1).toInt ∧ (z.1.2.1.2.2.1).toInt ≤ 1000 ∧ 0 ≤ (z.2.1.1.1.1).toInt ∧ 0 ≤ (z.2.2.1.2.2.2).toInt ∧ 0 ≤ (z.2.1.1.2.1).toInt ∧ (0 : Int32) ≤ z.2.1.1.2.2.1 ∧ z.2.1.1.2.2.1 ≤ 100 ∧ (z.2.1.1.1.1).toInt + (z.2.2.1.2.2.2).toInt + (z.2.1.1.2.1).toInt ≤ (z.1.2.1.2.2.1).toInt
def sl (z : T_Mo) : Int := (z.1.2.1.2.2.1).toInt - (z.2.1.1.1.1).toInt - (z.2.2.1.2.2.2).toInt - (z.2.1.1.2.1).toInt
def Ok (g z : T_Mo) : Prop := FE g z ∧ Jn z ∧ Jqx z.1.2.1.2.1 z.1.2.1.2.2.1 z.1.2.1.2.2.2 z.1.2.2.1.1 z.1.2.2.2.1 z.1.2.2.2.2.1 z.1.2.2.2.2.2 z.2.1.1.1.1 z.2.1.1.1.2 z.2.1.1.2.1 z.2.1.1.2.2.1 z.2.1.2.1.1 z.2.1.2.2.2.1 z.2.2.1.2.2.1 z.2.2.1.2.2.2 ∧ Lx3 z ∧ (0 : Int32) ≤ z.1.2.1.1.2 ∧ z.1.2.1.1.2 ≤ 60
def EX (e u : T_Mo) (k : Int32) : Prop := u.1.2.1.2.1 = e.1.2.1.2.1 ∧ u.2.1.1.2.2.1 = e.2.1.1.2.2.1 ∧ u.2.2.1.2.2.2 = e.2.2.1.2.2.2 ∧ u.2.1.1.2.1 = e.2.1.1.2.1 ∧ u.1.2.1.1.2 = e.1.2.1.1.2 + k ∧ (e.1.2.1.2.2.1).toInt ≤ (u.1.2.1.2.2.1).toInt ∧ EXx e.1.2.1.2.1 e.1.2.1.2.2.1 e.1.2.1.2.2.2 e.2.1.1.2.2.1 e.2.2.1.2.2.1 e.2.1.2.2.2.1 e.2.1.2.1.2 u.1.2.1.2.2.1 u.1.2.1.2.2.2 u.2.1.1.2.2.1 u.2.2.1.2.2.1 u.2.1.2.2.2.1 u.2.1.2.1.2 e.2.2.1.2.2.2
def EK (g e z : T_Mo) (k : Int32) : Prop := Ok g z ∧ EX e z k ∧ sl e ≤ sl z ∧ 0 ≤ sl e
def RT (g e : T_Mo) (lo hi r : Int32) (u : T_Mo) : Prop := (r = -1 ∧ FE g u) ∨ ((0 : Int32) ≤ r ∧ (e.1.2.1.2.2.1).toInt < (u.1.2.1.2.2.1).toInt ∧ EK g e u 0 ∧ sl e + 1 ≤ sl u ∧ Tyx u.1.2.1.2.1 u.1.2.1.2.2.1 u.1.2.1.2.2.2 r lo hi)
def ES (g e z : T_Mo) : Prop := Ok g z ∧ z.1.2.1.2.1 = e.1.2.1.2.1 ∧ z.2.1.1.2.2.1 = e.2.1.1.2.2.1 ∧ z.2.1.1.2.1 = e.2.1.1.2.1 ∧ z.1.2.1.1.2 = e.1.2.1.1.2 ∧ (e.1.2.1.2.2.1).toInt ≤ (z.1.2.1.2.2.1).toInt ∧ 0 ≤ (e.2.2.1.2.2.2).toInt ∧ (e.2.2.1.2.2.2).toInt ≤ (z.2.2.1.2.2.2).toInt ∧ EXx e.1.2.1.2.1 e.1.2.1.2.2.1 e.1.2.1.2.2.2 e.2.1.1.2.2.1 e.2.2.1.2.2.1 e.2.1.2.2.2.1 e.2.1.2.1.2 z.1.2.1.2.2.1 z.1.2.1.2.2.2 z.2.1.1.2.2.1 z.2.2.1.2.2.1 z.2.1.2.2.2.1 z.2.1.2.1.2 e.2.2.1.2.2.2 ∧ sl e ≤ sl z ∧ 0 ≤ sl e
def ST (g e z : T_Mo) (x1 x3 : Int32) : Prop := ES g e z ∧ x3 = e.2.2.1.2.2.2 ∧ 10 ≤ x1 ∧ x1 ≤ 22 ∧ PTx z.1.2.1.2.1 z.1.2.1.2.2.1 z.1.2.1.2.2.2 z.2.2.1.2.2.1 z.2.2.1.2.2.2 x3 x1
def SN (z : T_Mo) (x1 x4 : Int32) : Prop := NmOk x1 x4 z.2.1.1.2.2.1 ∧ (x1 = 19 → (0 : Int32) ≤ z.2.1.2.2.2.1 (bnn z.1.2.1.2.1 + x4).toNatClampNeg)
/-- one has been pushed that may lie in a statement -/
def PU (g e u : T_Mo) (r : Int32) : Prop := (r = 0 ∧ FE g u) ∨ (r = 1 ∧ Ok g u ∧ u.1.2.1.2.1 = e.1.2.1.2.1 ∧ u.2.1.1.2.2.1 = e.2.1.1.2.2.1 ∧ u.2.1.1.2.1 = e.2.1.1.2.1 ∧ u.1.2.1.1.2 = e.1.2.1.1.2 ∧ (e.1.2.1.2.2.1).toInt < (u.1.2.1.2.2.1).toInt ∧ (u.2.2.1.2.2.2).toInt = (e.2.2.1.2.2.2).toInt + 1 ∧ sl e ≤ sl u ∧ EXx e.1.2.1.2.1 e.1.2.1.2.2.1 e.1.2.1.2.2.2 e.2.1.1.2.2.1 e.2.2.1.2.2.1 e.2.1.2.2.2.1 e.2.1.2.1.2 u.1.2.1.2.2.1 u.1.2.1.2.2.2 u.2.1.1.2.2.1 u.2.2.1.2.2.1 u.2.1.2.2.2.1 u.2.1.2.1.2 e.2.2.1.2.2.2 ∧ PUx e.1.2.1.2.1 e.1.2.1.2.2.1 e.1.2.1.2.2.2 e.2.2.1.2.2.1 e.2.2.1.2.2.2 u.1.2.1.2.2.1 u.1.2.1.2.2.2 u.2.2.1.2.2.1 u.2.2.1.2.2.2)
def FrP (z u : T_Mo) : Prop := u.1 = z.1 ∧ u.2.1 = z.2.1 ∧ u.2.2.1.1 = z.2.2.1.1 ∧ u.2.2.1.2.1 = z.2.2.1.2.1 ∧ u.2.2.2 = z.2.2.2
theorem sn_17 {z : T_Mo} {x : Int32} (h : x = 17) : SN z x 0 := by
  subst h
  unfold SN NmOk
  grind
theorem s_Mo_goS {z_this : T_Mo} {post : Int32 → T_Mo → Prop} (p0 : Lx3 z_this) (hp : ∀ r u, ((r = 0 ∨ r = 1) ∧ Fr z_this u ∧ (r = 1 → Lx3 u)) → post r u) : wp_Mo_go z_this post :=
  s_Mo_go (g := z_this) (by grind [Lx3, Lx2, Pl]) (Fr_self _) (fun r u hq => hp r u ⟨hq.1, hq.2.2.1, fun h => ⟨hq.2.1, hq.2.2.2 h⟩⟩)
theorem s_Mo_overS {z_this : T_Mo} {a1 : Int32} {post : Int32 → T_Mo → Prop} (p0 : Lx3 z_this) (hp : ∀ r u, ((r = 0 ∨ r = 1) ∧ Fr z_this u ∧ (r = 1 → Lx3 u)) → post r u) : wp_Mo_over z_this a1 post :=
  s_Mo_over (g := z_this) p0.1 (Fr_self _) (fun r u hq => hp r u ⟨hq.1, hq.2.2.1, fun h => ⟨hq.2.1, hq.2.2.2 h⟩⟩)
theorem s_Mo_badS {z_this : T_Mo} {post : Int32 → T_Mo → Prop} (p0 : Lx3 z_this) (hp : ∀ r u, (r = -1 ∧ Fr z_this u) → post r u) : wp_Mo_bad z_this post :=
  s_Mo_bad (g := z_this) p0.1 (Fr_self _) (fun r u hq => hp r u ⟨hq.1, hq.2.2⟩)
theorem FE_Fr {g z u : T_Mo} (h : FE g z) (fr : Fr z u) : FE g u := by grind [FE, Fr]
theorem s_Mo_push {g z_this : T_Mo} {a1 lo hi : Int32} {post : Unit → T_Mo → Prop} (p0 : Ok g z_this) (p1 : Tyx z_this.1.2.1.2.1 z_this.1.2.1.2.2.1 z_this.1.2.1.2.2.2 a1 lo hi) (p2 : 1 ≤ sl z_this) (hp : ∀ r u, (Ok g u ∧ FrP z_this u ∧ (u.2.2.1.2.2.2).toInt = (z_this.2.2.1.2.2.2).toInt + 1 ∧ EXx z_this.1.2.1.2.1 z_this.1.2.1.2.2.1 z_this.1.2.1.2.2.2 z_this.2.1.1.2.2.1 z_this.2.2.1.2.2.1 z_this.2.1.2.2.2.1 z_this.2.1.2.1.2 u.1.2.1.2.2.1 u.1.2.1.2.2.2 u.2.1.1.2.2.1 u.2.2.1.2.2.1 u.2.1.2.2.2.1 u.2.1.2.1.2 z_this.2.2.1.2.2.2 ∧ PC z_this.1.2.1.2.1 z_this.1.2.1.2.2.1 z_this.1.2.1.2.2.2 z_this.2.2.1.2.2.1 z_this.2.2.1.2.2.2 u.1.2.1.2.2.1 u.1.2.1.2.2.2 u.2.2.1.2.2.1 u.2.2.1.2.2.2 lo hi) → post r u) : wp_Mo_push z_this a1 post := by
  obtain ⟨o1, ⟨hh, o2⟩, o3, o4, o5, o6⟩ := p0
  obtain ⟨n0, n9, k0, h0, t0, m0, m9, sm⟩ := o2
  unfold sl at p2
  unfold wp_Mo_push
  have e1 : (z_this.2.2.1.2.2.2 + (1 : Int32)).toInt = (z_this.2.2.1.2.2.2).toInt + 1 := by rw [ta (by rw [i1]; omega) (by rw [i1]; omega), i1]
  have h0' : (0 : Int32) ≤ z_this.2.2.1.2.2.2 := l32 h0
  have h9' : z_this.2.2.1.2.2.2 ≤ 1000 := l32 (by show (z_this.2.2.1.2.2.2).toInt ≤ 1000; omega)
  exact ⟨h_in h0 (by omega), hp _ _ ⟨⟨o1, ⟨hh, n0, n9, k0, by show 0 ≤ (z_this.2.2.1.2.2.2 + (1 : Int32)).toInt; omega, t0, m0, m9, by show (z_this.2.1.1.1.1).toInt + (z_this.2.2.1.2.2.2 + (1 : Int32)).toInt + (z_this.2.1.1.2.1).toInt ≤ (z_this.1.2.1.2.2.1).toInt; omega⟩, Jq_push o3 h0' h9' p1.1 p1.2.1, o4, o5, o6⟩, ⟨rfl, rfl, rfl, rfl, rfl⟩, e1, EX_push h0', fun mark w kr t => PT_push t p1 kr h0' h9'⟩⟩
def setK (z : T_Mo) (k : Nat → Int32) (m : Int32) : T_Mo := (((((z.1.1.1.1.1, z.1.1.1.1.2), (z.1.1.1.2.1, (z.1.1.1.2.2.1, z.1.1.1.2.2.2))), ((z.1.1.2.1.1, z.1.1.2.1.2), (z.1.1.2.2.1, (z.1.1.2.2.2.1, z.1.1.2.2.2.2)))), (((z.1.2.1.1.1, z.1.2.1.1.2), (z.1.2.1.2.1, (z.1.2.1.2.2.1, z.1.2.1.2.2.2))), ((z.1.2.2.1.1, (z.1.2.2.1.2.1, z.1.2.2.1.2.2)), (z.1.2.2.2.1, (z.1.2.2.2.2.1, k))))), ((((m, z.2.1.1.1.2), (z.2.1.1.2.1, (z.2.1.1.2.2.1, z.2.1.1.2.2.2))), ((z.2.1.2.1.1, z.2.1.2.1.2), (z.2.1.2.2.1, (z.2.1.2.2.2.1, z.2.1.2.2.2.2)))), (((z.2.2.1.1.1, z.2.2.1.1.2), (z.2.2.1.2.1, (z.2.2.1.2.2.1, z.2.2.1.2.2.2))), ((z.2.2.2.1.1, (z.2.2.2.1.2.1, z.2.2.2.1.2.2)), (z.2.2.2.2.1, (z.2.2.2.2.2.1, z.2.2.2.2.2.2))))))
theorem l_Mo_node0_L89 {z : T_Mo} {Kc : T_Mo → Int32 → Int64 → Int32 → Int32 → Int32 → Int32 → Int32 → Prop} {post : Int32 → T_Mo → Prop} {x1 : Int32} {x2 : Int64} {x4 x5 x6 x7 mark : Int32} (hh : z.1.2.1.2.1 = 0 ∨ z.1.2.1.2.1 = 1) (k0 : (0 : Int32) ≤ z.2.1.1.1.1) (k9 : z.2.1.1.1.1 ≤ 1000) (m0 : (0 : Int32) ≤ mark) (h9 : z.2.2.1.2.2.2 ≤ 1000) (kh : z.2.1.1.1.1 + z.2.2.1.2.2.2 < 1000) (hK : ∀ K' x, KM z.1.2.1.2.1 z.2.1.1.1.1 mark z.2.2.1.2.2.2 z.2.2.1.2.2.1 z.1.2.2.2.2.2 K' → Kc (setK z K' (z.2.1.1.1.1 + (z.2.2.1.2.2.2 - mark))) x1 x2 x4 x5 x6 x7 x) : ∀ (n9 : Nat) (K' : Nat → Int32) (x8 : Int32), mark ≤ x8 → x8 ≤ z.2.2.1.2.2.2 → KM z.1.2.1.2.1 z.2.1.1.1.1 mark x8 z.2.2.1.2.2.1 z.1.2.2.2.2.2 K' → (z.2.2.1.2.2.2).toInt - x8.toInt < ((n9 : Nat) : Int) → wp_Mo_node0_L89 Kc post n9 (setK z K' (z.2.1.1.1.1 + (x8 - mark))) x1 x2 x4 x5 x6 x7 x8 := by
  intro n9
  induction n9 with
  | zero => intro K' x8 i0 i1 i2 hm; exact (i_meas0 i1 hm).elim
  | succ n9 ih =>
    intro K' x8 i0 i1 i2 hm
    rw [wp_Mo_node0_L89]
    refine ⟨fun h => ?_, fun h => ?_⟩
    · have e : x8 = z.2.2.1.2.2.2 := by
        have h' : z.2.2.1.2.2.2 ≤ x8 := h
        grind
      subst e
      exact hK _ _ i2
    · have h' : ¬ z.2.2.1.2.2.2 ≤ x8 := h
      refine s_Mo_base (by exact hh) (fun r2 u2 hq => ?_)
      have hq' : (z.1.2.1.2.1 = 0 ∧ r2 = 1000) ∨ (z.1.2.1.2.1 = 1 ∧ r2 = 0) := hq
      have er : r2 = bb z.1.2.1.2.1 := by grind [bb]
      subst er
      have e1 : z.2.1.1.1.1 + (x8 - mark) + (1 : Int32) = z.2.1.1.1.1 + (x8 + (1 : Int32) - mark) := by grind
      refine ⟨vin (c := 2000) (by grind) (by grind) rfl, vin (c := 2000) ?_ ?_ rfl, ?_⟩
      · show (0 : Int32) ≤ bb z.1.2.1.2.1 + (z.2.1.1.1.1 + (x8 - mark))
        grind
      · show bb z.1.2.1.2.1 + (z.2.1.1.1.1 + (x8 - mark)) < 2000
        grind
      · have nx := ih (upd K' (bb z.1.2.1.2.1 + (z.2.1.1.1.1 + (x8 - mark))).toNatClampNeg (z.2.2.1.2.2.1 x8.toNatClampNeg)) (x8 + (1 : Int32)) (by grind) (by grind) (KM_step hh i2 k0 m0 i0 (by grind) (by grind) k9) (i_meas (by grind) (by grind) hm)
        rw [← e1] at nx
        exact nx
theorem s_Mo_node0 {g z_this : T_Mo} {lo hi a1 : Int32} {a2 : Int64} {a4 a5 a6 : Int32} {post : Int32 → T_Mo → Prop} (p0 : Ok g z_this) (p1 : 0 ≤ a6.toInt ∧ a6.toInt ≤ (z_this.2.2.1.2.2.2).toInt) (p2 : (0 : Int32) ≤ a1 ∧ a1 ≤ 24 ∧ lo ≤ a1 ∧ a1 ≤ hi) (p3 : PTx z_this.1.2.1.2.1 z_this.1.2.1.2.2.1 z_this.1.2.1.2.2.2 z_this.2.2.1.2.2.1 z_this.2.2.1.2.2.2 a6 a1) (p4 : ((a1 = 6 ∨ a1 = 24) → 1 ≤ (z_this.2.2.1.2.2.2).toInt - a6.toInt) ∧ (2 ≤ a1 → a1 ≤ 9 → a1 ≠ 6 → 2 ≤ (z_this.2.2.1.2.2.2).toInt - a6.toInt)) (p5 : NmOk a1 a2.toInt32 z_this.2.1.1.2.2.1 ∧ (a1 = 19 → (0 : Int32) ≤ z_this.2.1.2.2.2.1 (bnn z_this.1.2.1.2.1 + a2.toInt32).toNatClampNeg)) (hp : ∀ r u, ((r = -1 ∧ FE g u) ∨ ((0 : Int32) ≤ r ∧ (u.1.2.1.2.2.1).toInt = (z_this.1.2.1.2.2.1).toInt + 1 ∧ u.2.2.1.2.2.2 = a6 ∧ (u.2.1.1.1.1).toInt = (z_this.2.1.1.1.1).toInt + ((z_this.2.2.1.2.2.2).toInt - a6.toInt) ∧ u.1.2.1.2.1 = z_this.1.2.1.2.1 ∧ u.2.1.1.2.2.1 = z_this.2.1.1.2.2.1 ∧ u.2.1.1.2.1 = z_this.2.1.1.2.1 ∧ u.1.2.1.1.2 = z_this.1.2.1.1.2 ∧ u.2.1.2.2.2.1 = z_this.2.1.2.2.2.1 ∧ u.2.1.2.1.2 = z_this.2.1.2.1.2 ∧ Ok g u ∧ EXx z_this.1.2.1.2.1 z_this.1.2.1.2.2.1 z_this.1.2.1.2.2.2 z_this.2.1.1.2.2.1 z_this.2.2.1.2.2.1 z_this.2.1.2.2.2.1 z_this.2.1.2.1.2 u.1.2.1.2.2.1 u.1.2.1.2.2.2 u.2.1.1.2.2.1 u.2.2.1.2.2.1 u.2.1.2.2.2.1 u.2.1.2.1.2 a6 ∧ Tyx u.1.2.1.2.1 u.1.2.1.2.2.1 u.1.2.1.2.2.2 r lo hi)) → post r u) : wp_Mo_node0 z_this a1 a2 a4 a5 a6 post := by
  obtain ⟨o1, ⟨hh, o2⟩, o3, o4, o5, o6⟩ := p0
  obtain ⟨Q1, Q2⟩ := p1
  obtain ⟨N0, N9, K0, H0, T0, m0, m9, SM⟩ := o2
  unfold wp_Mo_node0
  refine ⟨fun h => s_Mo_badS o4 (fun r u hq => hp r u (Or.inl ⟨hq.1, FE_Fr o1 hq.2⟩)), fun h => ?_⟩
  refine s_Mo_base hh (fun r1 u1 hq => ?_)
  have er : r1 = bb z_this.1.2.1.2.1 := bb_of hq
  subst er
  have NN : (z_this.1.2.1.2.2.1).toInt < 1000 := by
    have ne : (z_this.1.2.1.2.2.1).toInt ≠ 1000 := fun e => h (Int32.toInt_inj.mp (e.trans (show (1000 : Int32).toInt = 1000 from rfl).symm))
    omega
  have n0 : (0 : Int32) ≤ z_this.1.2.1.2.2.1 := l32 N0
  have n9 : z_this.1.2.1.2.2.1 < 1000 := Int32.lt_iff_toInt_lt.mpr NN
  have k0 : (0 : Int32) ≤ z_this.2.1.1.1.1 := l32 K0
  have k9 : z_this.2.1.1.1.1 ≤ 1000 := l32 (by show (z_this.2.1.1.1.1).toInt ≤ 1000; omega)
  have h9 : z_this.2.2.1.2.2.2 ≤ 1000 := l32 (by show (z_this.2.2.1.2.2.2).toInt ≤ 1000; omega)
  have q1 : (0 : Int32) ≤ a6 := l32 Q1
  have q2 : a6 ≤ z_this.2.2.1.2.2.2 := l32 Q2
  have ekh : (z_this.2.1.1.1.1 + z_this.2.2.1.2.2.2).toInt = (z_this.2.1.1.1.1).toInt + (z_this.2.2.1.2.2.2).toInt := ta (by omega) (by omega)
  have kh : z_this.2.1.1.1.1 + z_this.2.2.1.2.2.2 ≤ z_this.1.2.1.2.2.1 := l32 (by omega)
  have kh9 : z_this.2.1.1.1.1 + z_this.2.2.1.2.2.2 < 1000 := Int32.lt_iff_toInt_lt.mpr (by show (z_this.2.1.1.1.1 + z_this.2.2.1.2.2.2).toInt < 1000; omega)
  have ehm : (z_this.2.2.1.2.2.2 - a6).toInt = (z_this.2.2.1.2.2.2).toInt - a6.toInt := ts (by omega) (by omega)
  have ekm : (z_this.2.1.1.1.1 + (z_this.2.2.1.2.2.2 - a6)).toInt = (z_this.2.1.1.1.1).toInt + ((z_this.2.2.1.2.2.2).toInt - a6.toInt) := by rw [ta (by omega) (by omega), ehm]
  have en1 : (z_this.1.2.1.2.2.1 + (1 : Int32)).toInt = (z_this.1.2.1.2.2.1).toInt + 1 := by rw [ta (by rw [i1]; omega) (by rw [i1]; omega), i1]
  have en : z_this.1.2.1.2.2.1 + (1 : Int32) - (1 : Int32) = z_this.1.2.1.2.2.1 := by apply Int32.toInt_inj.mp; rw [ts (by rw [i1]; omega) (by rw [i1]; omega), i1]; omega
  have hr : (0 : Int32) ≤ z_this.1.2.1.2.2.1 + (1 : Int32) - (1 : Int32) := by rw [en]; exact n0
  have e2 : z_this.2.1.1.1.1 + (a6 - a6) = z_this.2.1.1.1.1 := by
    have z : (a6 - a6).toInt = 0 := by rw [ts (by omega) (by omega)]; omega
    apply Int32.toInt_inj.mp; rw [ta (by omega) (by omega)]; omega
  have c1 : (a1 = 6 ∨ a1 = 24) → 1 ≤ z_this.2.2.1.2.2.2 - a6 := fun h => l32 (by have := p4.1 h; show (1 : Int) ≤ (z_this.2.2.1.2.2.2 - a6).toInt; omega)
  have c2 : 2 ≤ a1 → a1 ≤ 9 → a1 ≠ 6 → 2 ≤ z_this.2.2.1.2.2.2 - a6 := fun h h' h'' => l32 (by have := p4.2 h h' h''; show (2 : Int) ≤ (z_this.2.2.1.2.2.2 - a6).toInt; omega)
  have hJn : 0 ≤ (z_this.1.2.1.2.2.1 + (1 : Int32)).toInt ∧ (z_this.1.2.1.2.2.1 + (1 : Int32)).toInt ≤ 1000 ∧ 0 ≤ (z_this.2.1.1.1.1 + (z_this.2.2.1.2.2.2 - a6)).toInt ∧ 0 ≤ a6.toInt ∧ 0 ≤ (z_this.2.1.1.2.1).toInt ∧ (0 : Int32) ≤ z_this.2.1.1.2.2.1 ∧ z_this.2.1.1.2.2.1 ≤ 100 ∧ (z_this.2.1.1.1.1 + (z_this.2.2.1.2.2.2 - a6)).toInt + a6.toInt + (z_this.2.1.1.2.1).toInt ≤ (z_this.1.2.1.2.2.1 + (1 : Int32)).toInt := ⟨by omega, by omega, by omega, Q1, T0, m0, m9, by omega⟩
  have v : vp_in (bb z_this.1.2.1.2.1 + z_this.1.2.1.2.2.1) 2000 := bb_inI (bb_q hh) N0 NN
  have hFa : ∀ K' : Nat → Int32, KM z_this.1.2.1.2.1 z_this.2.1.1.1.1 a6 z_this.2.2.1.2.2.2 z_this.2.2.1.2.2.1 z_this.1.2.2.2.2.2 K' → FEa ((1000 : Int32) * z_this.1.2.1.2.1) g.1.2.1.2.2.2 g.1.2.2.1.1 g.1.2.2.2.1 g.1.2.2.2.2.1 g.1.2.2.2.2.2 g.2.1.1.1.2 (upd z_this.1.2.1.2.2.2 (bb z_this.1.2.1.2.1 + z_this.1.2.1.2.2.1).toNatClampNeg a1) (vp_updL z_this.1.2.2.1.1 (bb z_this.1.2.1.2.1 + z_this.1.2.1.2.2.1).toNatClampNeg a2) (upd z_this.1.2.2.2.1 (bb z_this.1.2.1.2.1 + z_this.1.2.1.2.2.1).toNatClampNeg z_this.2.1.1.1.1) (upd z_this.1.2.2.2.2.1 (bb z_this.1.2.1.2.1 + z_this.1.2.1.2.2.1).toNatClampNeg (z_this.2.2.1.2.2.2 - a6)) K' z_this.2.1.1.1.2 := fun K' hk => FEa_node hh o1.2.2.2.2.2.1 n0 n9 k0 q1 q2 kh h9 k9 hk
  have hJq : ∀ K' : Nat → Int32, KM z_this.1.2.1.2.1 z_this.2.1.1.1.1 a6 z_this.2.2.1.2.2.2 z_this.2.2.1.2.2.1 z_this.1.2.2.2.2.2 K' → Jqx z_this.1.2.1.2.1 (z_this.1.2.1.2.2.1 + (1 : Int32)) (upd z_this.1.2.1.2.2.2 (bb z_this.1.2.1.2.1 + z_this.1.2.1.2.2.1).toNatClampNeg a1) (vp_updL z_this.1.2.2.1.1 (bb z_this.1.2.1.2.1 + z_this.1.2.1.2.2.1).toNatClampNeg a2) (upd z_this.1.2.2.2.1 (bb z_this.1.2.1.2.1 + z_this.1.2.1.2.2.1).toNatClampNeg z_this.2.1.1.1.1) (upd z_this.1.2.2.2.2.1 (bb z_this.1.2.1.2.1 + z_this.1.2.1.2.2.1).toNatClampNeg (z_this.2.2.1.2.2.2 - a6)) K' (z_this.2.1.1.1.1 + (z_this.2.2.1.2.2.2 - a6)) z_this.2.1.1.1.2 z_this.2.1.1.2.1 z_this.2.1.1.2.2.1 z_this.2.1.2.1.1 z_this.2.1.2.2.2.1 z_this.2.2.1.2.2.1 a6 := fun K' hk => Jq_node hh o3 n0 n9 k0 q1 q2 kh h9 k9 m0 m9 hk p2.1 p2.2.1 p3 c1 c2 p5.1 p5.2
  have hEX : EXx z_this.1.2.1.2.1 z_this.1.2.1.2.2.1 z_this.1.2.1.2.2.2 z_this.2.1.1.2.2.1 z_this.2.2.1.2.2.1 z_this.2.1.2.2.2.1 z_this.2.1.2.1.2 (z_this.1.2.1.2.2.1 + (1 : Int32)) (upd z_this.1.2.1.2.2.2 (bb z_this.1.2.1.2.1 + z_this.1.2.1.2.2.1).toNatClampNeg a1) z_this.2.1.1.2.2.1 z_this.2.2.1.2.2.1 z_this.2.1.2.2.2.1 z_this.2.1.2.1.2 a6 := EX_node hh n0 n9
  have hTy : Tyx z_this.1.2.1.2.1 (z_this.1.2.1.2.2.1 + (1 : Int32)) (upd z_this.1.2.1.2.2.2 (bb z_this.1.2.1.2.1 + z_this.1.2.1.2.2.1).toNatClampNeg a1) (z_this.1.2.1.2.2.1 + (1 : Int32) - (1 : Int32)) lo hi := by
    have t := Ty_node (h := z_this.1.2.1.2.1) (n := z_this.1.2.1.2.2.1) (a1 := a1) (W := z_this.1.2.1.2.2.2) n0 n9
    rw [en]
    obtain ⟨t1, t2, t3, t4⟩ := t
    exact ⟨t1, t2, Int32.le_trans p2.2.2.1 t3, Int32.le_trans t4 p2.2.2.2⟩
  have hm : (z_this.2.2.1.2.2.2).toInt - a6.toInt < ((5000 : Nat) : Int) := by
    have e2 := h9
    rw [Int32.le_iff_toInt_le] at q1 e2
    rw [show (0 : Int32).toInt = 0 from rfl] at q1
    rw [show (1000 : Int32).toInt = 1000 from rfl] at e2
    omega
  have nx := l_Mo_node0_L89 (z := (((((z_this.1.1.1.1.1, z_this.1.1.1.1.2), (z_this.1.1.1.2.1, (z_this.1.1.1.2.2.1, z_this.1.1.1.2.2.2))), ((z_this.1.1.2.1.1, z_this.1.1.2.1.2), (z_this.1.1.2.2.1, (z_this.1.1.2.2.2.1, z_this.1.1.2.2.2.2)))), (((z_this.1.2.1.1.1, z_this.1.2.1.1.2), (z_this.1.2.1.2.1, (z_this.1.2.1.2.2.1, (upd z_this.1.2.1.2.2.2 (bb z_this.1.2.1.2.1 + z_this.1.2.1.2.2.1).toNatClampNeg a1)))), (((vp_updL z_this.1.2.2.1.1 (bb z_this.1.2.1.2.1 + z_this.1.2.1.2.2.1).toNatClampNeg a2), ((upd z_this.1.2.2.1.2.1 (bb z_this.1.2.1.2.1 + z_this.1.2.1.2.2.1).toNatClampNeg a4), (upd z_this.1.2.2.1.2.2 (bb z_this.1.2.1.2.1 + z_this.1.2.1.2.2.1).toNatClampNeg a5))), ((upd z_this.1.2.2.2.1 (bb z_this.1.2.1.2.1 + z_this.1.2.1.2.2.1).toNatClampNeg z_this.2.1.1.1.1), ((upd z_this.1.2.2.2.2.1 (bb z_this.1.2.1.2.1 + z_this.1.2.1.2.2.1).toNatClampNeg (z_this.2.2.1.2.2.2 - a6)), z_this.1.2.2.2.2.2))))), ((((z_this.2.1.1.1.1, z_this.2.1.1.1.2), (z_this.2.1.1.2.1, (z_this.2.1.1.2.2.1, z_this.2.1.1.2.2.2))), ((z_this.2.1.2.1.1, z_this.2.1.2.1.2), (z_this.2.1.2.2.1, (z_this.2.1.2.2.2.1, z_this.2.1.2.2.2.2)))), (((z_this.2.2.1.1.1, z_this.2.2.1.1.2), (z_this.2.2.1.2.1, (z_this.2.2.1.2.2.1, z_this.2.2.1.2.2.2))), ((z_this.2.2.2.1.1, (z_this.2.2.2.1.2.1, z_this.2.2.2.1.2.2)), (z_this.2.2.2.2.1, (z_this.2.2.2.2.2.1, z_this.2.2.2.2.2.2))))))) (Kc := fun (z_this : T_Mo) (x1 : Int32) (x2 : Int64) (x4 : Int32) (x5 : Int32) (x6 : Int32) (x7 : Int32) (x8 : Int32) => post ((z_this.1.2.1.2.2.1 + (1 : Int32)) - (1 : Int32)) (((((z_this.1.1.1.1.1, z_this.1.1.1.1.2), (z_this.1.1.1.2.1, (z_this.1.1.1.2.2.1, z_this.1.1.1.2.2.2))), ((z_this.1.1.2.1.1, z_this.1.1.2.1.2), (z_this.1.1.2.2.1, (z_this.1.1.2.2.2.1, z_this.1.1.2.2.2.2)))), (((z_this.1.2.1.1.1, z_this.1.2.1.1.2), (z_this.1.2.1.2.1, ((z_this.1.2.1.2.2.1 + (1 : Int32)), z_this.1.2.1.2.2.2))), ((z_this.1.2.2.1.1, (z_this.1.2.2.1.2.1, z_this.1.2.2.1.2.2)), (z_this.1.2.2.2.1, (z_this.1.2.2.2.2.1, z_this.1.2.2.2.2.2))))), ((((z_this.2.1.1.1.1, z_this.2.1.1.1.2), (z_this.2.1.1.2.1, (z_this.2.1.1.2.2.1, z_this.2.1.1.2.2.2))), ((z_this.2.1.2.1.1, z_this.2.1.2.1.2), (z_this.2.1.2.2.1, (z_this.2.1.2.2.2.1, z_this.2.1.2.2.2.2)))), (((z_this.2.2.1.1.1, z_this.2.2.1.1.2), (z_this.2.2.1.2.1, (z_this.2.2.1.2.2.1, x6))), ((z_this.2.2.2.1.1, (z_this.2.2.2.1.2.1, z_this.2.2.2.1.2.2)), (z_this.2.2.2.2.1, (z_this.2.2.2.2.2.1, z_this.2.2.2.2.2.2))))))) (post := post) (x1 := a1) (x2 := a2) (x4 := a4) (x5 := a5) (x6 := a6) (x7 := bb z_this.1.2.1.2.1 + z_this.1.2.1.2.2.1) (mark := a6) hh k0 k9 q1 h9 kh9 (fun K' x hk => hp _ _ (Or.inr ⟨hr, en1, rfl, ekm, rfl, rfl, rfl, rfl, rfl, rfl, ⟨⟨o1.1, o1.2.1, o1.2.2.1, o1.2.2.2.1, o1.2.2.2.2.1, hFa K' hk, o1.2.2.2.2.2.2⟩, ⟨hh, hJn⟩, hJq K' hk, o4, o5, o6⟩, hEX, hTy⟩)) 5000 z_this.1.2.2.2.2.2 a6 (Int32.le_refl _) q2 KM_0 hm
  have e3 : setK (((((z_this.1.1.1.1.1, z_this.1.1.1.1.2), (z_this.1.1.1.2.1, (z_this.1.1.1.2.2.1, z_this.1.1.1.2.2.2))), ((z_this.1.1.2.1.1, z_this.1.1.2.1.2), (z_this.1.1.2.2.1, (z_this.1.1.2.2.2.1, z_this.1.1.2.2.2.2)))), (((z_this.1.2.1.1.1, z_this.1.2.1.1.2), (z_this.1.2.1.2.1, (z_this.1.2.1.2.2.1, (upd z_this.1.2.1.2.2.2 (bb z_this.1.2.1.2.1 + z_this.1.2.1.2.2.1).toNatClampNeg a1)))), (((vp_updL z_this.1.2.2.1.1 (bb z_this.1.2.1.2.1 + z_this.1.2.1.2.2.1).toNatClampNeg a2), ((upd z_this.1.2.2.1.2.1 (bb z_this.1.2.1.2.1 + z_this.1.2.1.2.2.1).toNatClampNeg a4), (upd z_this.1.2.2.1.2.2 (bb z_this.1.2.1.2.1 + z_this.1.2.1.2.2.1).toNatClampNeg a5))), ((upd z_this.1.2.2.2.1 (bb z_this.1.2.1.2.1 + z_this.1.2.1.2.2.1).toNatClampNeg z_this.2.1.1.1.1), ((upd z_this.1.2.2.2.2.1 (bb z_this.1.2.1.2.1 + z_this.1.2.1.2.2.1).toNatClampNeg (z_this.2.2.1.2.2.2 - a6)), z_this.1.2.2.2.2.2))))), ((((z_this.2.1.1.1.1, z_this.2.1.1.1.2), (z_this.2.1.1.2.1, (z_this.2.1.1.2.2.1, z_this.2.1.1.2.2.2))), ((z_this.2.1.2.1.1, z_this.2.1.2.1.2), (z_this.2.1.2.2.1, (z_this.2.1.2.2.2.1, z_this.2.1.2.2.2.2)))), (((z_this.2.2.1.1.1, z_this.2.2.1.1.2), (z_this.2.2.1.2.1, (z_this.2.2.1.2.2.1, z_this.2.2.1.2.2.2))), ((z_this.2.2.2.1.1, (z_this.2.2.2.1.2.1, z_this.2.2.2.1.2.2)), (z_this.2.2.2.2.1, (z_this.2.2.2.2.2.1, z_this.2.2.2.2.2.2)))))) z_this.1.2.2.2.2.2 (z_this.2.1.1.1.1 + (a6 - a6)) = (((((z_this.1.1.1.1.1, z_this.1.1.1.1.2), (z_this.1.1.1.2.1, (z_this.1.1.1.2.2.1, z_this.1.1.1.2.2.2))), ((z_this.1.1.2.1.1, z_this.1.1.2.1.2), (z_this.1.1.2.2.1, (z_this.1.1.2.2.2.1, z_this.1.1.2.2.2.2)))), (((z_this.1.2.1.1.1, z_this.1.2.1.1.2), (z_this.1.2.1.2.1, (z_this.1.2.1.2.2.1, (upd z_this.1.2.1.2.2.2 (bb z_this.1.2.1.2.1 + z_this.1.2.1.2.2.1).toNatClampNeg a1)))), (((vp_updL z_this.1.2.2.1.1 (bb z_this.1.2.1.2.1 + z_this.1.2.1.2.2.1).toNatClampNeg a2), ((upd z_this.1.2.2.1.2.1 (bb z_this.1.2.1.2.1 + z_this.1.2.1.2.2.1).toNatClampNeg a4), (upd z_this.1.2.2.1.2.2 (bb z_this.1.2.1.2.1 + z_this.1.2.1.2.2.1).toNatClampNeg a5))), ((upd z_this.1.2.2.2.1 (bb z_this.1.2.1.2.1 + z_this.1.2.1.2.2.1).toNatClampNeg z_this.2.1.1.1.1), ((upd z_this.1.2.2.2.2.1 (bb z_this.1.2.1.2.1 + z_this.1.2.1.2.2.1).toNatClampNeg (z_this.2.2.1.2.2.2 - a6)), z_this.1.2.2.2.2.2))))), ((((z_this.2.1.1.1.1, z_this.2.1.1.1.2), (z_this.2.1.1.2.1, (z_this.2.1.1.2.2.1, z_this.2.1.1.2.2.2))), ((z_this.2.1.2.1.1, z_this.2.1.2.1.2), (z_this.2.1.2.2.1, (z_this.2.1.2.2.2.1, z_this.2.1.2.2.2.2)))), (((z_this.2.2.1.1.1, z_this.2.2.1.1.2), (z_this.2.2.1.2.1, (z_this.2.2.1.2.2.1, z_this.2.2.1.2.2.2))), ((z_this.2.2.2.1.1, (z_this.2.2.2.1.2.1, z_this.2.2.2.1.2.2)), (z_this.2.2.2.2.1, (z_this.2.2.2.2.2.1, z_this.2.2.2.2.2.2)))))) := by rw [e2]; rfl
  have nx2 : wp_Mo_node0_L89 _ post 5000 (setK (((((z_this.1.1.1.1.1, z_this.1.1.1.1.2), (z_this.1.1.1.2.1, (z_this.1.1.1.2.2.1, z_this.1.1.1.2.2.2))), ((z_this.1.1.2.1.1, z_this.1.1.2.1.2), (z_this.1.1.2.2.1, (z_this.1.1.2.2.2.1, z_this.1.1.2.2.2.2)))), (((z_this.1.2.1.1.1, z_this.1.2.1.1.2), (z_this.1.2.1.2.1, (z_this.1.2.1.2.2.1, (upd z_this.1.2.1.2.2.2 (bb z_this.1.2.1.2.1 + z_this.1.2.1.2.2.1).toNatClampNeg a1)))), (((vp_updL z_this.1.2.2.1.1 (bb z_this.1.2.1.2.1 + z_this.1.2.1.2.2.1).toNatClampNeg a2), ((upd z_this.1.2.2.1.2.1 (bb z_this.1.2.1.2.1 + z_this.1.2.1.2.2.1).toNatClampNeg a4), (upd z_this.1.2.2.1.2.2 (bb z_this.1.2.1.2.1 + z_this.1.2.1.2.2.1).toNatClampNeg a5))), ((upd z_this.1.2.2.2.1 (bb z_this.1.2.1.2.1 + z_this.1.2.1.2.2.1).toNatClampNeg z_this.2.1.1.1.1), ((upd z_this.1.2.2.2.2.1 (bb z_this.1.2.1.2.1 + z_this.1.2.1.2.2.1).toNatClampNeg (z_this.2.2.1.2.2.2 - a6)), z_this.1.2.2.2.2.2))))), ((((z_this.2.1.1.1.1, z_this.2.1.1.1.2), (z_this.2.1.1.2.1, (z_this.2.1.1.2.2.1, z_this.2.1.1.2.2.2))), ((z_this.2.1.2.1.1, z_this.2.1.2.1.2), (z_this.2.1.2.2.1, (z_this.2.1.2.2.2.1, z_this.2.1.2.2.2.2)))), (((z_this.2.2.1.1.1, z_this.2.2.1.1.2), (z_this.2.2.1.2.1, (z_this.2.2.1.2.2.1, z_this.2.2.1.2.2.2))), ((z_this.2.2.2.1.1, (z_this.2.2.2.1.2.1, z_this.2.2.2.1.2.2)), (z_this.2.2.2.2.1, (z_this.2.2.2.2.2.1, z_this.2.2.2.2.2.2)))))) z_this.1.2.2.2.2.2 (z_this.2.1.1.1.1 + (a6 - a6))) a1 a2 a4 a5 a6 (bb z_this.1.2.1.2.1 + z_this.1.2.1.2.2.1) a6 := nx
  rw [e3] at nx2
  exact ⟨v, v, v, v, v, v, 5000, nx2⟩

