theorem ix_inj {x y : Int32} (hx : (0 : Int32) ≤ x) (hy : (0 : Int32) ≤ y) (h : x.toNatClampNeg = y.toNatClampNeg) : x = y := by
  rw [Int32.le_iff_toInt_le] at hx hy
  have e0 : (0 : Int32).toInt = 0 := rfl
  have h1 : x.toInt.toNat = y.toInt.toNat := h
  exact Int32.toInt_inj.mp (by omega)
theorem upd_at {f : Nat → Int32} {k : Nat} {x : Int32} : upd f k x k = x := if_pos rfl
theorem upd_ne {f : Nat → Int32} {k j : Nat} {x : Int32} (h : j ≠ k) : upd f k x j = f j := if_neg h
theorem updL_at {f : Nat → Int64} {k : Nat} {x : Int64} : vp_updL f k x k = x := if_pos rfl
theorem updL_ne {f : Nat → Int64} {k j : Nat} {x : Int64} (h : j ≠ k) : vp_updL f k x j = f j := if_neg h
theorem ix_ne {x y : Int32} (hx : (0 : Int32) ≤ x) (hy : (0 : Int32) ≤ y) (h : x ≠ y) : x.toNatClampNeg ≠ y.toNatClampNeg := fun e => h (ix_inj hx hy e)
/-- the base of the half that is being built, of its names -/
def bb (h : Int32) : Int32 := (1000 : Int32) * ((1 : Int32) - h)
def bnn (h : Int32) : Int32 := (100 : Int32) * ((1 : Int32) - h)
theorem bb_ne {h i x : Int32} (hh : h = 0 ∨ h = 1) (hi : (0 : Int32) ≤ i) (hx : (0 : Int32) ≤ x) (hi2 : i < 1000) (hx2 : x < 1000) (hn : i ≠ x) : (bb h + i).toNatClampNeg ≠ (bb h + x).toNatClampNeg := ix_ne (by grind [bb]) (by grind [bb]) (by grind [bb])
theorem bnn_ne {h i x : Int32} (hh : h = 0 ∨ h = 1) (hi : (0 : Int32) ≤ i) (hx : (0 : Int32) ≤ x) (hi2 : i < 100) (hx2 : x < 100) (hn : i ≠ x) : (bnn h + i).toNatClampNeg ≠ (bnn h + x).toNatClampNeg := ix_ne (by grind [bnn]) (by grind [bnn]) (by grind [bnn])
theorem fb_ne {h i x : Int32} (hh : h = 0 ∨ h = 1) (hi : (0 : Int32) ≤ i) (hx : (0 : Int32) ≤ x) (hi2 : i < 1000) (hx2 : x < 1000) : ((1000 : Int32) * h + i).toNatClampNeg ≠ (bb h + x).toNatClampNeg := ix_ne (by grind [bb]) (by grind [bb]) (by grind [bb])
theorem fn_ne {h i x : Int32} (hh : h = 0 ∨ h = 1) (hi : (0 : Int32) ≤ i) (hx : (0 : Int32) ≤ x) (hi2 : i < 100) (hx2 : x < 100) : ((100 : Int32) * h + i).toNatClampNeg ≠ (bnn h + x).toNatClampNeg := ix_ne (by grind [bnn]) (by grind [bnn]) (by grind [bnn])
/-- what may lie in what -/
def KK (w v : Int32) : Prop := (w ≤ 9 → v ≤ 9) ∧ (10 ≤ w → w ≤ 22 → v ≤ 9 ∨ v = 23) ∧ (w = 23 → 10 ≤ v ∧ v ≤ 22) ∧ (w = 24 → v = 23)
def KR (w lo hi : Int32) : Prop := (w ≤ 9 ∧ hi ≤ 9) ∨ (10 ≤ w ∧ w ≤ 22 ∧ hi ≤ 9) ∨ (10 ≤ w ∧ w ≤ 22 ∧ lo = 23 ∧ hi = 23) ∨ (w = 23 ∧ 10 ≤ lo ∧ hi ≤ 22) ∨ (w = 24 ∧ lo = 23 ∧ hi = 23)
theorem KR_KK {w lo hi v : Int32} (h : KR w lo hi) (h1 : lo ≤ v) (h2 : v ≤ hi) : KK w v := by
  unfold KR at h; unfold KK; grind
def NmOk (w x m : Int32) : Prop := ((w = 1 ∨ w = 10 ∨ w = 13 ∨ w = 18 ∨ w = 19) → (0 : Int32) ≤ x ∧ x < m) ∧ (w = 22 → (0 : Int32) ≤ x ∧ x < 64)
/-- a node's values are as they must be: w what it is, x its number, a where its kids begin, c how many they are -/
def NOv (W K S : Nat → Int32) (b bn m km i w x a c : Int32) : Prop := ((0 : Int32) ≤ w ∧ w ≤ 24) ∧ ((0 : Int32) ≤ a ∧ (0 : Int32) ≤ c ∧ a ≤ km ∧ c ≤ km - a) ∧ (∀ j : Int32, (0 : Int32) ≤ j → j < c → (0 : Int32) ≤ K (b + (a + j)).toNatClampNeg ∧ K (b + (a + j)).toNatClampNeg < i ∧ KK w (W (b + K (b + (a + j)).toNatClampNeg).toNatClampNeg)) ∧ ((w = 6 ∨ w = 24) → 1 ≤ c) ∧ (2 ≤ w → w ≤ 9 → w ≠ 6 → 2 ≤ c) ∧ NmOk w x m ∧ (w = 19 → (0 : Int32) ≤ S (bn + x).toNatClampNeg ∧ S (bn + x).toNatClampNeg < i)
def NOk (W : Nat → Int32) (N : Nat → Int64) (A C K S : Nat → Int32) (b bn m km i : Int32) : Prop := NOv W K S b bn m km i (W (b + i).toNatClampNeg) (N (b + i).toNatClampNeg).toInt32 (A (b + i).toNatClampNeg) (C (b + i).toNatClampNeg)
theorem NOv_mono {W K S W' K' S' : Nat → Int32} {b bn m km m' km' i w x a c : Int32} (h : NOv W K S b bn m km i w x a c) (hm : m ≤ m') (hk0 : (0 : Int32) ≤ km) (hkm : km ≤ km') (hk9 : km' ≤ 1000) (hW : ∀ v : Int32, (0 : Int32) ≤ v → v < i → W' (b + v).toNatClampNeg = W (b + v).toNatClampNeg) (hK : ∀ q : Int32, (0 : Int32) ≤ q → q < km → K' (b + q).toNatClampNeg = K (b + q).toNatClampNeg) (hS : ∀ k : Int32, (0 : Int32) ≤ k → k < m → (0 : Int32) ≤ S (bn + k).toNatClampNeg → S' (bn + k).toNatClampNeg = S (bn + k).toNatClampNeg) : NOv W' K' S' b bn m' km' i w x a c := by
  obtain ⟨h1, h2, h3, h4, h5, h6, h7⟩ := h
  refine ⟨h1, by grind, fun j j0 j1 => ?_, h4, h5, ?_, fun hw => ?_⟩
  · obtain ⟨k1, k2, k3⟩ := h3 j j0 j1
    rw [hK (a + j) (by grind) (by grind), hW _ k1 k2]
    exact ⟨k1, k2, k3⟩
  · unfold NmOk at h6 ⊢; grind
  · obtain ⟨s1, s2⟩ := h7 hw
    have hx : (0 : Int32) ≤ x ∧ x < m := h6.1 (by grind)
    rw [hS x hx.1 hx.2 s1]
    exact ⟨s1, s2⟩
def TopOk (W T : Nat → Int32) (b n k : Int32) : Prop := (0 : Int32) ≤ T (b + k).toNatClampNeg ∧ T (b + k).toNatClampNeg < n ∧ ((10 ≤ W (b + T (b + k).toNatClampNeg).toNatClampNeg ∧ W (b + T (b + k).toNatClampNeg).toNatClampNeg ≤ 22) ∨ W (b + T (b + k).toNatClampNeg).toNatClampNeg = 24)
def NameOk (W L S : Nat → Int32) (b bn n k : Int32) : Prop := (0 : Int32) ≤ L (bn + k).toNatClampNeg ∧ L (bn + k).toNatClampNeg ≤ 12 ∧ S (bn + k).toNatClampNeg < n ∧ ((0 : Int32) ≤ S (bn + k).toNatClampNeg → W (b + S (bn + k).toNatClampNeg).toNatClampNeg = 24)
/-- a program in the arrays: its nodes, its tops, its names -/
def Prg (W : Nat → Int32) (N : Nat → Int64) (A C K T L S : Nat → Int32) (b bn n m t km : Int32) : Prop := (∀ i : Int32, (0 : Int32) ≤ i → i < n → NOk W N A C K S b bn m km i) ∧ (∀ k : Int32, (0 : Int32) ≤ k → k < t → TopOk W T b n k) ∧ (∀ k : Int32, (0 : Int32) ≤ k → k < m → NameOk W L S b bn n k)
/-- the half that is being built, its pile too -/
def Jqx (h n : Int32) (W : Nat → Int32) (N : Nat → Int64) (A C K : Nat → Int32) (km : Int32) (T : Nat → Int32) (t m : Int32) (L S P : Nat → Int32) (hi : Int32) : Prop := Prg W N A C K T L S (bb h) (bnn h) n m t km ∧ (∀ k : Int32, (0 : Int32) ≤ k → k < hi → (0 : Int32) ≤ P k.toNatClampNeg ∧ P k.toNatClampNeg < n)
def Tyx (h n : Int32) (W : Nat → Int32) (r lo hi : Int32) : Prop := (0 : Int32) ≤ r ∧ r < n ∧ lo ≤ W (bb h + r).toNatClampNeg ∧ W (bb h + r).toNatClampNeg ≤ hi
def PTx (h n : Int32) (W P : Nat → Int32) (hi mark w : Int32) : Prop := ∀ k : Int32, (0 : Int32) ≤ k → mark ≤ k → k < hi → (0 : Int32) ≤ P k.toNatClampNeg ∧ P k.toNatClampNeg < n ∧ KK w (W (bb h + P k.toNatClampNeg).toNatClampNeg)
def EXx (h n : Int32) (W : Nat → Int32) (m : Int32) (P S R : Nat → Int32) (n' : Int32) (W' : Nat → Int32) (m' : Int32) (P' S' R' : Nat → Int32) (p : Int32) : Prop := (∀ i : Int32, (0 : Int32) ≤ i → i < n → W' (bb h + i).toNatClampNeg = W (bb h + i).toNatClampNeg) ∧ (∀ k : Int32, (0 : Int32) ≤ k → k < p → P' k.toNatClampNeg = P k.toNatClampNeg) ∧ (∀ k : Int32, (0 : Int32) ≤ k → k < m → S' (bnn h + k).toNatClampNeg = S (bnn h + k).toNatClampNeg ∧ R' (bnn h + k).toNatClampNeg = R (bnn h + k).toNatClampNeg) ∧ n ≤ n' ∧ m ≤ m'
theorem EXx_refl {h n m p : Int32} {W P S R : Nat → Int32} : EXx h n W m P S R n W m P S R p := ⟨fun _ _ _ => rfl, fun _ _ _ => rfl, fun _ _ _ => ⟨rfl, rfl⟩, Int32.le_refl _, Int32.le_refl _⟩
theorem EXx_trans {h n m n' m' n'' m'' p q : Int32} {W P S R W' P' S' R' W'' P'' S'' R'' : Nat → Int32} (a : EXx h n W m P S R n' W' m' P' S' R' p) (b : EXx h n' W' m' P' S' R' n'' W'' m'' P'' S'' R'' q) (hp' : p.toInt ≤ q.toInt) : EXx h n W m P S R n'' W'' m'' P'' S'' R'' p := by
  have hp : p ≤ q := Int32.le_iff_toInt_le.mpr hp'
  obtain ⟨a1, a2, a3, a4, a5⟩ := a
  obtain ⟨b1, b2, b3, b4, b5⟩ := b
  refine ⟨fun i i0 i1 => (b1 i i0 (by grind)).trans (a1 i i0 i1), fun k k0 k1 => (b2 k k0 (by grind)).trans (a2 k k0 k1), fun k k0 k1 => ?_, by grind, by grind⟩
  have x := b3 k k0 (by grind)
  have y := a3 k k0 k1
  exact ⟨x.1.trans y.1, x.2.trans y.2⟩
theorem Ty_EX {h n m n' m' p r lo hi : Int32} {W P S R W' P' S' R' : Nat → Int32} (a : EXx h n W m P S R n' W' m' P' S' R' p) (t : Tyx h n W r lo hi) : Tyx h n' W' r lo hi := by
  obtain ⟨a1, a2, a3, a4, a5⟩ := a
  obtain ⟨t1, t2, t3, t4⟩ := t
  unfold Tyx
  rw [a1 r t1 t2]
  exact ⟨t1, by grind, t3, t4⟩
theorem PT_EX {h n m n' m' p top mark w : Int32} {W P S R W' P' S' R' : Nat → Int32} (a : EXx h n W m P S R n' W' m' P' S' R' p) (t : PTx h n W P top mark w) (hp' : top.toInt ≤ p.toInt) : PTx h n' W' P' top mark w := by
  have hp : top ≤ p := Int32.le_iff_toInt_le.mpr hp'
  obtain ⟨a1, a2, a3, a4, a5⟩ := a
  intro k k0 k1 k2
  obtain ⟨t1, t2, t3⟩ := t k k0 k1 k2
  rw [a2 k k0 (by grind), a1 _ t1 t2]
  exact ⟨t1, by grind, t3⟩
theorem PT_0 {h n mark w : Int32} {W P : Nat → Int32} : PTx h n W P mark mark w := fun k _ k1 k2 => absurd k2 (by grind)
theorem PT_push {h n a lo hi top mark w : Int32} {W P : Nat → Int32} (t : PTx h n W P top mark w) (ty : Tyx h n W a lo hi) (kr : KR w lo hi) (h0 : (0 : Int32) ≤ top) (h9 : top ≤ 1000) : PTx h n W (upd P top.toNatClampNeg a) (top + (1 : Int32)) mark w := by
  intro k k0 k1 k2
  obtain ⟨y1, y2, y3, y4⟩ := ty
  by_cases e : k = top
  · subst e; rw [upd_at]; exact ⟨y1, y2, KR_KK kr y3 y4⟩
  · rw [upd_ne (ix_ne k0 h0 e)]; exact t k k0 k1 (by grind)
theorem EX_push {h n m top a : Int32} {W P S R : Nat → Int32} (h0 : (0 : Int32) ≤ top) : EXx h n W m P S R n W m (upd P top.toNatClampNeg a) S R top := ⟨fun _ _ _ => rfl, fun k k0 k1 => upd_ne (ix_ne k0 h0 (by grind)), fun _ _ _ => ⟨rfl, rfl⟩, Int32.le_refl _, Int32.le_refl _⟩
theorem Jq_push {h n km t m hi a : Int32} {W A C K T L S P : Nat → Int32} {N : Nat → Int64} (j : Jqx h n W N A C K km T t m L S P hi) (h0 : (0 : Int32) ≤ hi) (h9 : hi ≤ 1000) (a0 : (0 : Int32) ≤ a) (a1 : a < n) : Jqx h n W N A C K km T t m L S (upd P hi.toNatClampNeg a) (hi + (1 : Int32)) := by
  refine ⟨j.1, fun k k0 k1 => ?_⟩
  by_cases e : k = hi
  · subst e; rw [upd_at]; exact ⟨a0, a1⟩
  · rw [upd_ne (ix_ne k0 h0 e)]; exact j.2 k k0 (by grind)
/-- the kids' loop: what it has moved from the pile -/
def KM (h km mark x : Int32) (P K K' : Nat → Int32) : Prop := (∀ j : Int32, (0 : Int32) ≤ j → j < x - mark → K' (bb h + (km + j)).toNatClampNeg = P (mark + j).toNatClampNeg) ∧ (∀ q : Nat, (∀ j : Int32, (0 : Int32) ≤ j → j < x - mark → q ≠ (bb h + (km + j)).toNatClampNeg) → K' q = K q)
theorem KM_0 {h km mark : Int32} {P K : Nat → Int32} : KM h km mark mark P K K := ⟨fun j j0 j1 => absurd j1 (by grind), fun _ _ => rfl⟩
theorem KM_step {h km mark x : Int32} {P K K' : Nat → Int32} (hh : h = 0 ∨ h = 1) (k : KM h km mark x P K K') (km0 : (0 : Int32) ≤ km) (m0 : (0 : Int32) ≤ mark) (mx : mark ≤ x) (x9 : km + (x - mark) < 1000) (x8 : x ≤ 1000) (k9 : km ≤ 1000) : KM h km mark (x + (1 : Int32)) P K (upd K' (bb h + (km + (x - mark))).toNatClampNeg (P x.toNatClampNeg)) := by
  refine ⟨fun j j0 j1 => ?_, fun q hq => ?_⟩
  · by_cases e : j = x - mark
    · have e2 : mark + j = x := by grind
      rw [e2, e, upd_at]
    · rw [upd_ne (bb_ne hh (by grind) (by grind) (by grind) (by grind) (by grind))]; exact k.1 j j0 (by grind)
  · rw [upd_ne (hq (x - mark) (by grind) (by grind))]
    exact k.2 q (fun j j0 j1 => hq j j0 (by grind))
theorem EX_node {h n m mark a1 : Int32} {W P S R : Nat → Int32} (hh : h = 0 ∨ h = 1) (n0 : (0 : Int32) ≤ n) (n9 : n < 1000) : EXx h n W m P S R (n + (1 : Int32)) (upd W (bb h + n).toNatClampNeg a1) m P S R mark := ⟨fun i i0 i1 => upd_ne (bb_ne hh i0 n0 (by grind) n9 (by grind)), fun _ _ _ => rfl, fun _ _ _ => ⟨rfl, rfl⟩, by grind, Int32.le_refl _⟩
theorem Ty_node {h n a1 : Int32} {W : Nat → Int32} (n0 : (0 : Int32) ≤ n) (n9 : n < 1000) : Tyx h (n + (1 : Int32)) (upd W (bb h + n).toNatClampNeg a1) n a1 a1 := by
  unfold Tyx; rw [upd_at]; exact ⟨n0, by grind, Int32.le_refl _, Int32.le_refl _⟩
theorem Jq_node {h n km t m hi mark a1 : Int32} {a2 : Int64} {W A C K T L S P K' : Nat → Int32} {N : Nat → Int64} (hh : h = 0 ∨ h = 1) (j : Jqx h n W N A C K km T t m L S P hi) (n0 : (0 : Int32) ≤ n) (n9 : n < 1000) (k0 : (0 : Int32) ≤ km) (m0 : (0 : Int32) ≤ mark) (mh : mark ≤ hi) (kh : km + hi ≤ n) (hi9 : hi ≤ 1000) (km9 : km ≤ 1000) (hm : (0 : Int32) ≤ m) (hm9 : m ≤ 100)
    (hk : KM h km mark hi P K K') (w0 : (0 : Int32) ≤ a1) (w9 : a1 ≤ 24) (pt : PTx h n W P hi mark a1) (c1 : (a1 = 6 ∨ a1 = 24) → 1 ≤ hi - mark) (c2 : 2 ≤ a1 → a1 ≤ 9 → a1 ≠ 6 → 2 ≤ hi - mark) (nm : NmOk a1 a2.toInt32 m) (d : a1 = 19 → (0 : Int32) ≤ S (bnn h + a2.toInt32).toNatClampNeg) :
    Jqx h (n + (1 : Int32)) (upd W (bb h + n).toNatClampNeg a1) (vp_updL N (bb h + n).toNatClampNeg a2) (upd A (bb h + n).toNatClampNeg km) (upd C (bb h + n).toNatClampNeg (hi - mark)) K' (km + (hi - mark)) T t m L S P mark := by
  obtain ⟨⟨j1, j2, j3⟩, j4⟩ := j
  have hW : ∀ v : Int32, (0 : Int32) ≤ v → v < n → upd W (bb h + n).toNatClampNeg a1 (bb h + v).toNatClampNeg = W (bb h + v).toNatClampNeg := fun v v0 v1 => upd_ne (bb_ne hh v0 n0 (by grind) n9 (by grind))
  have hK : ∀ q : Int32, (0 : Int32) ≤ q → q < km → K' (bb h + q).toNatClampNeg = K (bb h + q).toNatClampNeg := fun q q0 q1 => hk.2 _ (fun j j0 j1 => bb_ne hh q0 (by grind) (by grind) (by grind) (by grind))
  refine ⟨⟨fun i i0 i1 => ?_, fun k k0 k1 => ?_, fun k k0 k1 => ?_⟩, fun k k0 k1 => ?_⟩
  · by_cases e : i = n
    · subst e
      unfold NOk
      rw [upd_at, updL_at, upd_at, upd_at]
      refine ⟨⟨w0, w9⟩, by grind, fun j j0 j1 => ?_, c1, c2, nm, fun h19 => ?_⟩
      · rw [hk.1 j j0 j1]
        obtain ⟨p1, p2, p3⟩ := pt (mark + j) (by grind) (by grind) (by grind)
        rw [hW _ p1 p2]
        exact ⟨p1, p2, p3⟩
      · have hx := nm.1 (by grind)
        exact ⟨d h19, (j3 _ hx.1 hx.2).2.2.1⟩
    · have ne : (bb h + i).toNatClampNeg ≠ (bb h + n).toNatClampNeg := bb_ne hh i0 n0 (by grind) n9 e
      have old := j1 i i0 (by grind)
      unfold NOk at old ⊢
      rw [upd_ne ne, updL_ne ne, upd_ne ne, upd_ne ne]
      exact NOv_mono old (Int32.le_refl _) k0 (by grind) (by grind) (fun v v0 v1 => hW v v0 (by grind)) hK (fun _ _ _ _ => rfl)
  · obtain ⟨t1, t2, t3⟩ := j2 k k0 k1
    unfold TopOk
    rw [hW _ t1 t2]
    exact ⟨t1, by grind, t3⟩
  · obtain ⟨t1, t2, t3, t4⟩ := j3 k k0 k1
    refine ⟨t1, t2, by grind, fun s0 => ?_⟩
    rw [hW _ s0 t3]
    exact t4 s0
  · obtain ⟨p1, p2⟩ := j4 k k0 (by grind)
    exact ⟨p1, by grind⟩
/-- the finished half is the ghost's -/
def FEa (b : Int32) (W : Nat → Int32) (N : Nat → Int64) (A C K T : Nat → Int32) (W' : Nat → Int32) (N' : Nat → Int64) (A' C' K' T' : Nat → Int32) : Prop := ∀ i : Int32, (0 : Int32) ≤ i → i < 1000 → W' (b + i).toNatClampNeg = W (b + i).toNatClampNeg ∧ N' (b + i).toNatClampNeg = N (b + i).toNatClampNeg ∧ A' (b + i).toNatClampNeg = A (b + i).toNatClampNeg ∧ C' (b + i).toNatClampNeg = C (b + i).toNatClampNeg ∧ K' (b + i).toNatClampNeg = K (b + i).toNatClampNeg ∧ T' (b + i).toNatClampNeg = T (b + i).toNatClampNeg
def FEb (b : Int32) (L S R L' S' R' : Nat → Int32) : Prop := ∀ i : Int32, (0 : Int32) ≤ i → i < 100 → L' (b + i).toNatClampNeg = L (b + i).toNatClampNeg ∧ S' (b + i).toNatClampNeg = S (b + i).toNatClampNeg ∧ R' (b + i).toNatClampNeg = R (b + i).toNatClampNeg
theorem FEa_refl {b : Int32} {W A C K T : Nat → Int32} {N : Nat → Int64} : FEa b W N A C K T W N A C K T := fun _ _ _ => ⟨rfl, rfl, rfl, rfl, rfl, rfl⟩
theorem FEb_refl {b : Int32} {L S R : Nat → Int32} : FEb b L S R L S R := fun _ _ _ => ⟨rfl, rfl, rfl⟩
theorem FEa_node {h n km mark hi a1 : Int32} {a2 : Int64} {W A C K T W0 A0 C0 K0 T0 P K' : Nat → Int32} {N N0 : Nat → Int64} (hh : h = 0 ∨ h = 1) (f : FEa ((1000 : Int32) * h) W0 N0 A0 C0 K0 T0 W N A C K T) (n0 : (0 : Int32) ≤ n) (n9 : n < 1000) (k0 : (0 : Int32) ≤ km) (m0 : (0 : Int32) ≤ mark) (mh : mark ≤ hi) (kh : km + hi ≤ n) (hi9 : hi ≤ 1000) (km9 : km ≤ 1000) (hk : KM h km mark hi P K K') : FEa ((1000 : Int32) * h) W0 N0 A0 C0 K0 T0 (upd W (bb h + n).toNatClampNeg a1) (vp_updL N (bb h + n).toNatClampNeg a2) (upd A (bb h + n).toNatClampNeg km) (upd C (bb h + n).toNatClampNeg (hi - mark)) K' T := by
  intro i i0 i1
  have ne := fb_ne hh i0 n0 i1 n9
  obtain ⟨f1, f2, f3, f4, f5, f6⟩ := f i i0 i1
  rw [upd_ne ne, updL_ne ne, upd_ne ne, upd_ne ne, hk.2 _ (fun j j0 j1 => fb_ne hh i0 (by grind) i1 (by grind))]
  exact ⟨f1, f2, f3, f4, f5, f6⟩
theorem FEa_top {h t s : Int32} {W A C K T W0 A0 C0 K0 T0 : Nat → Int32} {N N0 : Nat → Int64} (hh : h = 0 ∨ h = 1) (f : FEa ((1000 : Int32) * h) W0 N0 A0 C0 K0 T0 W N A C K T) (t0 : (0 : Int32) ≤ t) (t9 : t < 1000) : FEa ((1000 : Int32) * h) W0 N0 A0 C0 K0 T0 W N A C K (upd T (bb h + t).toNatClampNeg s) := by
  intro i i0 i1
  obtain ⟨f1, f2, f3, f4, f5, f6⟩ := f i i0 i1
  rw [upd_ne (fb_ne hh i0 t0 i1 t9)]
  exact ⟨f1, f2, f3, f4, f5, f6⟩
theorem FEb_tell {h m l s r : Int32} {L S R L0 S0 R0 : Nat → Int32} (hh : h = 0 ∨ h = 1) (f : FEb ((100 : Int32) * h) L0 S0 R0 L S R) (m0 : (0 : Int32) ≤ m) (m9 : m < 100) : FEb ((100 : Int32) * h) L0 S0 R0 (upd L (bnn h + m).toNatClampNeg l) (upd S (bnn h + m).toNatClampNeg s) (upd R (bnn h + m).toNatClampNeg r) := by
  intro i i0 i1
  have ne := fn_ne hh i0 m0 i1 m9
  rw [upd_ne ne, upd_ne ne, upd_ne ne]
  exact f i i0 i1
theorem FEb_step {h m s : Int32} {L S R L0 S0 R0 : Nat → Int32} (hh : h = 0 ∨ h = 1) (f : FEb ((100 : Int32) * h) L0 S0 R0 L S R) (m0 : (0 : Int32) ≤ m) (m9 : m < 100) : FEb ((100 : Int32) * h) L0 S0 R0 L (upd S (bnn h + m).toNatClampNeg s) R := by
  intro i i0 i1
  rw [upd_ne (fn_ne hh i0 m0 i1 m9)]
  exact f i i0 i1
theorem Jq_top {h n km t m hi s : Int32} {W A C K T L S P : Nat → Int32} {N : Nat → Int64} (hh : h = 0 ∨ h = 1) (j : Jqx h n W N A C K km T t m L S P hi) (t0 : (0 : Int32) ≤ t) (t9 : t < 1000) (ty : Tyx h n W s 10 22 ∨ Tyx h n W s 24 24) : Jqx h n W N A C K km (upd T (bb h + t).toNatClampNeg s) (t + (1 : Int32)) m L S P hi := by
  obtain ⟨⟨j1, j2, j3⟩, j4⟩ := j
  refine ⟨⟨j1, fun k k0 k1 => ?_, j3⟩, j4⟩
  by_cases e : k = t
  · subst e
    unfold TopOk
    rw [upd_at]
    rcases ty with ⟨y1, y2, y3, y4⟩ | ⟨y1, y2, y3, y4⟩
    · exact ⟨y1, y2, Or.inl ⟨y3, y4⟩⟩
    · exact ⟨y1, y2, Or.inr (by grind)⟩
  · unfold TopOk
    rw [upd_ne (bb_ne hh k0 t0 (by grind) t9 e)]
    exact j2 k k0 (by grind)
theorem Jq_tell {h n km t m hi l : Int32} {W A C K T L S P : Nat → Int32} {N : Nat → Int64} (hh : h = 0 ∨ h = 1) (j : Jqx h n W N A C K km T t m L S P hi) (n0 : (0 : Int32) ≤ n) (m0 : (0 : Int32) ≤ m) (m9 : m < 100) (k0 : (0 : Int32) ≤ km) (k9 : km ≤ 1000) (l0 : (0 : Int32) ≤ l) (l9 : l ≤ 12) : Jqx h n W N A C K km T t (m + (1 : Int32)) (upd L (bnn h + m).toNatClampNeg l) (upd S (bnn h + m).toNatClampNeg (-1 : Int32)) P hi := by
  obtain ⟨⟨j1, j2, j3⟩, j4⟩ := j
  refine ⟨⟨fun i i0 i1 => ?_, j2, fun k k0 k1 => ?_⟩, j4⟩
  · exact NOv_mono (j1 i i0 i1) (by grind) k0 (Int32.le_refl _) k9 (fun _ _ _ => rfl) (fun _ _ _ => rfl) (fun k k0 k1 _ => upd_ne (bnn_ne hh k0 m0 (by grind) m9 (by grind)))
  · by_cases e : k = m
    · subst e
      unfold NameOk
      rw [upd_at, upd_at]
      exact ⟨l0, l9, by grind, fun h9 => absurd h9 (by decide)⟩
    · have ne := bnn_ne hh k0 m0 (by grind) m9 e
      unfold NameOk
      rw [upd_ne ne, upd_ne ne]
      exact j3 k k0 (by grind)
theorem Jq_step {h n km t m hi k s : Int32} {W A C K T L S P : Nat → Int32} {N : Nat → Int64} (hh : h = 0 ∨ h = 1) (j : Jqx h n W N A C K km T t m L S P hi) (m9 : m ≤ 100) (k0 : (0 : Int32) ≤ km) (k9 : km ≤ 1000) (q0 : (0 : Int32) ≤ k) (q1 : k < m) (hS : S (bnn h + k).toNatClampNeg < 0) (ty : Tyx h n W s 24 24) : Jqx h n W N A C K km T t m L (upd S (bnn h + k).toNatClampNeg s) P hi := by
  obtain ⟨⟨j1, j2, j3⟩, j4⟩ := j
  refine ⟨⟨fun i i0 i1 => ?_, j2, fun x x0 x1 => ?_⟩, j4⟩
  · exact NOv_mono (j1 i i0 i1) (Int32.le_refl _) k0 (Int32.le_refl _) k9 (fun _ _ _ => rfl) (fun _ _ _ => rfl) (fun y y0 y1 y2 => upd_ne (bnn_ne hh y0 q0 (by grind) (by grind) (fun e => by subst e; grind)))
  · obtain ⟨n1, n2, n3, n4⟩ := j3 x x0 x1
    by_cases e : x = k
    · subst e
      unfold NameOk
      rw [upd_at]
      exact ⟨n1, n2, ty.2.1, fun _ => by have a := ty.2.2.1; have b := ty.2.2.2; grind⟩
    · unfold NameOk
      rw [upd_ne (bnn_ne hh x0 q0 (by grind) (by grind) e)]
      exact ⟨n1, n2, n3, n4⟩
/-- every step of the names has its node -/
def SDx (h m : Int32) (S R : Nat → Int32) : Prop := ∀ k : Int32, (0 : Int32) ≤ k → k < m → R (bnn h + k).toNatClampNeg = 24 → (0 : Int32) ≤ S (bnn h + k).toNatClampNeg
theorem SD_0 {h : Int32} {S R : Nat → Int32} : SDx h 0 S R := fun k k0 k1 => absurd k1 (by grind)
theorem SD_EX {h n m n' m' p : Int32} {W P S R W' P' S' R' : Nat → Int32} (a : EXx h n W m P S R n' W' m' P' S' R' p) (s : SDx h m S R) : SDx h m S' R' := by
  intro k k0 k1 k2
  obtain ⟨e1, e2⟩ := a.2.2.1 k k0 k1
  rw [e1]; rw [e2] at k2
  exact s k k0 k1 k2
theorem SD_one {h m : Int32} {S R : Nat → Int32} (s : SDx h m S R) (r : R (bnn h + m).toNatClampNeg = 24 → (0 : Int32) ≤ S (bnn h + m).toNatClampNeg) (m9 : m ≤ 100) : SDx h (m + (1 : Int32)) S R := by
  intro k k0 k1 k2
  by_cases e : k = m
  · subst e; exact r k2
  · exact s k k0 (by grind) k2
theorem SD_set {h m k s : Int32} {S R : Nat → Int32} (hh : h = 0 ∨ h = 1) (d : SDx h m S R) (m9 : m ≤ 100) (k0 : (0 : Int32) ≤ k) (k9 : k < 100) (s0 : (0 : Int32) ≤ s) : SDx h m (upd S (bnn h + k).toNatClampNeg s) R := by
  intro x x0 x1 x2
  by_cases e : x = k
  · subst e; rw [upd_at]; exact s0
  · rw [upd_ne (bnn_ne hh x0 k0 (by grind) k9 e)]; exact d x x0 x1 x2
