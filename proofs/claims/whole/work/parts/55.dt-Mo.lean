/-! Every run has one outcome: D post N: some outcome has 'post', and N of every post that this outcome has -/
def D2 (post : Int32 → GS → Prop) (N : (Int32 → GS → Prop) → Prop) : Prop := ∃ r S, post r S ∧ ∀ P : Int32 → GS → Prop, P r S → N P
def D1 {α : Type} (post : α → Prop) (N : (α → Prop) → Prop) : Prop := ∃ s, post s ∧ ∀ P : α → Prop, P s → N P
theorem D2.t {post : Int32 → GS → Prop} {A B : (Int32 → GS → Prop) → Prop} {c : Prop} (hc : c) (h : D2 post A) : D2 post (fun P => (c → A P) ∧ (¬ c → B P)) := by
  obtain ⟨r, S, h1, h2⟩ := h
  exact ⟨r, S, h1, fun P hP => ⟨fun _ => h2 P hP, fun e => absurd hc e⟩⟩
theorem D2.f {post : Int32 → GS → Prop} {A B : (Int32 → GS → Prop) → Prop} {c : Prop} (hc : ¬ c) (h : D2 post B) : D2 post (fun P => (c → A P) ∧ (¬ c → B P)) := by
  obtain ⟨r, S, h1, h2⟩ := h
  exact ⟨r, S, h1, fun P hP => ⟨fun e => absurd e hc, fun _ => h2 P hP⟩⟩
theorem D2.a {post : Int32 → GS → Prop} {A : (Int32 → GS → Prop) → Prop} {c : Prop} (hc : c) (h : D2 post A) : D2 post (fun P => c ∧ A P) := by
  obtain ⟨r, S, h1, h2⟩ := h
  exact ⟨r, S, h1, fun P hP => ⟨hc, h2 P hP⟩⟩
theorem D2.p {post : Int32 → GS → Prop} {r : Int32} {S : GS} (h : post r S) : D2 post (fun P => P r S) := ⟨r, S, h, fun _ h => h⟩
theorem D2.e {post : Int32 → GS → Prop} {A : Nat → (Int32 → GS → Prop) → Prop} (q : Nat) (h : D2 post (A q)) : D2 post (fun P => ∃ q, A q P) := by
  obtain ⟨r, S, h1, h2⟩ := h
  exact ⟨r, S, h1, fun P hP => ⟨q, h2 P hP⟩⟩
theorem D2.c2 {post : Int32 → GS → Prop} {R : (Int32 → GS → Prop) → Int32 → GS → Prop} {N : (Int32 → GS → Prop) → Prop} (hc : D2 (R post) N) (h : ∀ r S, R post r S → D2 post (fun P => R P r S)) : D2 post (fun P => N (fun r S => R P r S)) := by
  obtain ⟨r0, S0, h1, h2⟩ := hc
  obtain ⟨r, S, h3, h4⟩ := h r0 S0 h1
  exact ⟨r, S, h3, fun P hP => h2 _ (h4 P hP)⟩
theorem D2.c1 {α : Type} {post : Int32 → GS → Prop} {R : (Int32 → GS → Prop) → α → Prop} {N : (α → Prop) → Prop} (hc : D1 (R post) N) (h : ∀ s, R post s → D2 post (fun P => R P s)) : D2 post (fun P => N (fun s => R P s)) := by
  obtain ⟨s0, h1, h2⟩ := hc
  obtain ⟨r, S, h3, h4⟩ := h s0 h1
  exact ⟨r, S, h3, fun P hP => h2 _ (h4 P hP)⟩
theorem D1.t {α : Type} {post : α → Prop} {A B : (α → Prop) → Prop} {c : Prop} (hc : c) (h : D1 post A) : D1 post (fun P => (c → A P) ∧ (¬ c → B P)) := by
  obtain ⟨s, h1, h2⟩ := h
  exact ⟨s, h1, fun P hP => ⟨fun _ => h2 P hP, fun e => absurd hc e⟩⟩
theorem D1.f {α : Type} {post : α → Prop} {A B : (α → Prop) → Prop} {c : Prop} (hc : ¬ c) (h : D1 post B) : D1 post (fun P => (c → A P) ∧ (¬ c → B P)) := by
  obtain ⟨s, h1, h2⟩ := h
  exact ⟨s, h1, fun P hP => ⟨fun e => absurd e hc, fun _ => h2 P hP⟩⟩
theorem D1.a {α : Type} {post : α → Prop} {A : (α → Prop) → Prop} {c : Prop} (hc : c) (h : D1 post A) : D1 post (fun P => c ∧ A P) := by
  obtain ⟨s, h1, h2⟩ := h
  exact ⟨s, h1, fun P hP => ⟨hc, h2 P hP⟩⟩
theorem D1.p {α : Type} {post : α → Prop} {s : α} (h : post s) : D1 post (fun P => P s) := ⟨s, h, fun _ h => h⟩
theorem D1.e {α : Type} {post : α → Prop} {A : Nat → (α → Prop) → Prop} (q : Nat) (h : D1 post (A q)) : D1 post (fun P => ∃ q, A q P) := by
  obtain ⟨s, h1, h2⟩ := h
  exact ⟨s, h1, fun P hP => ⟨q, h2 P hP⟩⟩
theorem D1.c2 {α : Type} {post : α → Prop} {R : (α → Prop) → Int32 → GS → Prop} {N : (Int32 → GS → Prop) → Prop} (hc : D2 (R post) N) (h : ∀ r S, R post r S → D1 post (fun P => R P r S)) : D1 post (fun P => N (fun r S => R P r S)) := by
  obtain ⟨r0, S0, h1, h2⟩ := hc
  obtain ⟨s, h3, h4⟩ := h r0 S0 h1
  exact ⟨s, h3, fun P hP => h2 _ (h4 P hP)⟩
theorem D1.c1 {α β : Type} {post : α → Prop} {R : (α → Prop) → β → Prop} {N : (β → Prop) → Prop} (hc : D1 (R post) N) (h : ∀ s, R post s → D1 post (fun P => R P s)) : D1 post (fun P => N (fun s => R P s)) := by
  obtain ⟨s0, h1, h2⟩ := hc
  obtain ⟨s, h3, h4⟩ := h s0 h1
  exact ⟨s, h3, fun P hP => h2 _ (h4 P hP)⟩
set_option maxHeartbeats 1000000 in
theorem dt_wp_Mo_thrown (S : GS) (post : Int32 → Prop) (h : wp_Mo_thrown S post) : D1 post (fun P => wp_Mo_thrown S P) := by
  unfold wp_Mo_thrown at h ⊢
  exact D1.p h
set_option maxHeartbeats 1000000 in
theorem dt_wp_Mo_refused (S : GS) (p0 : Int32) (post : Int32 → GS → Prop) (h : wp_Mo_refused S p0 post) : D2 post (fun P => wp_Mo_refused S p0 P) := by
  unfold wp_Mo_refused at h ⊢
  by_cases hc1 : p0 ≤ (0 : Int32)
  · refine D2.t hc1 ?_
    replace h := h.1 hc1
    exact D2.p h
  refine D2.f hc1 ?_
  replace h := h.2 hc1
  exact D2.p h
set_option maxHeartbeats 1000000 in
theorem dt_wp_Mo_isKey (p0 : Int32) (post : Int32 → Prop) (h : wp_Mo_isKey p0 post) : D1 post (fun P => wp_Mo_isKey p0 P) := by
  unfold wp_Mo_isKey at h ⊢
  by_cases hc2 : p0 < (0 : Int32)
  · refine D1.t hc2 ?_
    replace h := h.1 hc2
    exact D1.p h
  refine D1.f hc2 ?_
  replace h := h.2 hc2
  by_cases hc3 : (24 : Int32) ≤ p0
  · refine D1.t hc3 ?_
    replace h := h.1 hc3
    exact D1.p h
  refine D1.f hc3 ?_
  replace h := h.2 hc3
  exact D1.p h
set_option maxHeartbeats 1000000 in
theorem dt_wp_Mo_isFour (p0 : Int32) (post : Int32 → Prop) (h : wp_Mo_isFour p0 post) : D1 post (fun P => wp_Mo_isFour p0 P) := by
  unfold wp_Mo_isFour at h ⊢
  by_cases hc4 : p0 < (0 : Int32)
  · refine D1.t hc4 ?_
    replace h := h.1 hc4
    exact D1.p h
  refine D1.f hc4 ?_
  replace h := h.2 hc4
  by_cases hc5 : (4 : Int32) ≤ p0
  · refine D1.t hc5 ?_
    replace h := h.1 hc5
    exact D1.p h
  refine D1.f hc5 ?_
  replace h := h.2 hc5
  exact D1.p h
set_option maxHeartbeats 1000000 in
theorem dt_wp_Mo_isCode (p0 : Int32) (post : Int32 → Prop) (h : wp_Mo_isCode p0 post) : D1 post (fun P => wp_Mo_isCode p0 P) := by
  unfold wp_Mo_isCode at h ⊢
  by_cases hc6 : p0 < (4 : Int32)
  · refine D1.t hc6 ?_
    replace h := h.1 hc6
    exact D1.p h
  refine D1.f hc6 ?_
  replace h := h.2 hc6
  by_cases hc7 : (107 : Int32) < p0
  · refine D1.t hc7 ?_
    replace h := h.1 hc7
    exact D1.p h
  refine D1.f hc7 ?_
  replace h := h.2 hc7
  exact D1.p h
set_option maxHeartbeats 1000000 in
theorem dt_J_Mo_wire_13 (post : GS → Prop) (x1 : Int32) (x2 : Int32) (y1 : Int32) (S : GS) (h : J_Mo_wire_13 post x1 x2 y1 S) : D1 post (fun P => J_Mo_wire_13 P x1 x2 y1 S) := by
  unfold J_Mo_wire_13 at h ⊢
  refine D1.c2 (dt_wp_Mo_refused _ _ _ h) (fun r13 S13 h => ?_)
  by_cases hc8 : r13 = (0 : Int32)
  · refine D1.t hc8 ?_
    replace h := h.1 hc8
    refine D1.a h.1 ?_
    replace h := h.2
    exact D1.p h
  refine D1.f hc8 ?_
  replace h := h.2 hc8
  exact D1.p h
set_option maxHeartbeats 1000000 in
theorem dt_wp_Mo_wire (S : GS) (p0 : Int32) (p1 : Int32) (post : GS → Prop) (h : wp_Mo_wire S p0 p1 post) : D1 post (fun P => wp_Mo_wire S p0 p1 P) := by
  unfold wp_Mo_wire at h ⊢
  refine D1.c1 (dt_wp_Mo_isKey _ _ h) (fun r2 h => ?_)
  by_cases hc9 : r2 = (0 : Int32)
  · refine D1.t hc9 ?_
    replace h := h.1 hc9
    exact dt_J_Mo_wire_13 _ _ _ _ _ h
  refine D1.f hc9 ?_
  replace h := h.2 hc9
  exact dt_J_Mo_wire_13 _ _ _ _ _ h
set_option maxHeartbeats 1000000 in
theorem dt_J_Mo_bounce_28 (post : GS → Prop) (x1 : Int32) (x2 : Int32) (y1 : Int32) (S : GS) (h : J_Mo_bounce_28 post x1 x2 y1 S) : D1 post (fun P => J_Mo_bounce_28 P x1 x2 y1 S) := by
  unfold J_Mo_bounce_28 at h ⊢
  refine D1.c2 (dt_wp_Mo_refused _ _ _ h) (fun r28 S28 h => ?_)
  by_cases hc10 : r28 = (0 : Int32)
  · refine D1.t hc10 ?_
    replace h := h.1 hc10
    refine D1.a h.1 ?_
    replace h := h.2
    exact D1.p h
  refine D1.f hc10 ?_
  replace h := h.2 hc10
  exact D1.p h
set_option maxHeartbeats 1000000 in
theorem dt_J_Mo_bounce_23 (post : GS → Prop) (x1 : Int32) (x2 : Int32) (S : GS) (h : J_Mo_bounce_23 post x1 x2 S) : D1 post (fun P => J_Mo_bounce_23 P x1 x2 S) := by
  unfold J_Mo_bounce_23 at h ⊢
  exact dt_J_Mo_bounce_28 _ _ _ _ _ h
set_option maxHeartbeats 1000000 in
theorem dt_wp_Mo_bounce (S : GS) (p0 : Int32) (p1 : Int32) (post : GS → Prop) (h : wp_Mo_bounce S p0 p1 post) : D1 post (fun P => wp_Mo_bounce S p0 p1 P) := by
  unfold wp_Mo_bounce at h ⊢
  refine D1.c1 (dt_wp_Mo_isKey _ _ h) (fun r2 h => ?_)
  by_cases hc11 : r2 = (0 : Int32)
  · refine D1.t hc11 ?_
    replace h := h.1 hc11
    exact dt_J_Mo_bounce_28 _ _ _ _ _ h
  refine D1.f hc11 ?_
  replace h := h.2 hc11
  by_cases hc12 : p1 < (0 : Int32)
  · refine D1.t hc12 ?_
    replace h := h.1 hc12
    exact dt_J_Mo_bounce_23 _ _ _ _ h
  refine D1.f hc12 ?_
  replace h := h.2 hc12
  by_cases hc13 : p1 ≤ (255 : Int32)
  · refine D1.t hc13 ?_
    replace h := h.1 hc13
    exact dt_J_Mo_bounce_28 _ _ _ _ _ h
  refine D1.f hc13 ?_
  replace h := h.2 hc13
  exact dt_J_Mo_bounce_23 _ _ _ _ h
set_option maxHeartbeats 1000000 in
theorem dt_J_Mo_hasCorners_164 (S : GS) (post : Int32 → Prop) (k17 : (Int32 → Prop) → Int32 → Int32 → Int32 → Int32 → Int32 → Int32 → Prop) (hk17 : ∀ (z0 : Int32) (z1 : Int32) (z2 : Int32) (z3 : Int32) (z4 : Int32) (z5 : Int32), k17 post z0 z1 z2 z3 z4 z5 → D1 post (fun P => k17 P z0 z1 z2 z3 z4 z5)) (k26 : (Int32 → Prop) → Int32 → Int32 → Int32 → Int32 → Int32 → Int32 → Int32 → Prop) (hk26 : ∀ (z0 : Int32) (z1 : Int32) (z2 : Int32) (z3 : Int32) (z4 : Int32) (z5 : Int32) (z6 : Int32), k26 post z0 z1 z2 z3 z4 z5 z6 → D1 post (fun P => k26 P z0 z1 z2 z3 z4 z5 z6)) (x1 : Int32) (x2 : Int32) (x3 : Int32) (x4 : Int32) (x5 : Int32) (x6 : Int32) (x7 : Int32) (x8 : Int32) (x9 : Int32) (x10 : Int32) (x11 : Int32) (h : J_Mo_hasCorners_164 S post (k17 post) (k26 post) x1 x2 x3 x4 x5 x6 x7 x8 x9 x10 x11) : D1 post (fun P => J_Mo_hasCorners_164 S P (k17 P) (k26 P) x1 x2 x3 x4 x5 x6 x7 x8 x9 x10 x11) := by
  unfold J_Mo_hasCorners_164 at h ⊢
  exact hk26 _ _ _ _ _ _ _ h
set_option maxHeartbeats 1000000 in
theorem dt_J_Mo_hasCorners_139 (S : GS) (post : Int32 → Prop) (k17 : (Int32 → Prop) → Int32 → Int32 → Int32 → Int32 → Int32 → Int32 → Prop) (hk17 : ∀ (z0 : Int32) (z1 : Int32) (z2 : Int32) (z3 : Int32) (z4 : Int32) (z5 : Int32), k17 post z0 z1 z2 z3 z4 z5 → D1 post (fun P => k17 P z0 z1 z2 z3 z4 z5)) (k26 : (Int32 → Prop) → Int32 → Int32 → Int32 → Int32 → Int32 → Int32 → Int32 → Prop) (hk26 : ∀ (z0 : Int32) (z1 : Int32) (z2 : Int32) (z3 : Int32) (z4 : Int32) (z5 : Int32) (z6 : Int32), k26 post z0 z1 z2 z3 z4 z5 z6 → D1 post (fun P => k26 P z0 z1 z2 z3 z4 z5 z6)) (x1 : Int32) (x2 : Int32) (x3 : Int32) (x4 : Int32) (x5 : Int32) (x6 : Int32) (x7 : Int32) (x8 : Int32) (x9 : Int32) (x10 : Int32) (y0 : Int32) (h : J_Mo_hasCorners_139 S post (k17 post) (k26 post) x1 x2 x3 x4 x5 x6 x7 x8 x9 x10 y0) : D1 post (fun P => J_Mo_hasCorners_139 S P (k17 P) (k26 P) x1 x2 x3 x4 x5 x6 x7 x8 x9 x10 y0) := by
  unfold J_Mo_hasCorners_139 at h ⊢
  by_cases hc14 : x5 = (0 : Int32)
  · refine D1.t hc14 ?_
    replace h := h.1 hc14
    by_cases hc15 : x6 = x3
    · refine D1.t hc15 ?_
      replace h := h.1 hc15
      exact hk26 _ _ _ _ _ _ _ h
    refine D1.f hc15 ?_
    replace h := h.2 hc15
    by_cases hc16 : x7 = x4
    · refine D1.t hc16 ?_
      replace h := h.1 hc16
      exact hk26 _ _ _ _ _ _ _ h
    refine D1.f hc16 ?_
    replace h := h.2 hc16
    by_cases hc17 : y0 = (0 : Int32)
    · refine D1.t hc17 ?_
      replace h := h.1 hc17
      exact hk26 _ _ _ _ _ _ _ h
    refine D1.f hc17 ?_
    replace h := h.2 hc17
    exact dt_J_Mo_hasCorners_164 _ _ k17 hk17 k26 hk26 _ _ _ _ _ _ _ _ _ _ _ h
  refine D1.f hc14 ?_
  replace h := h.2 hc14
  exact dt_J_Mo_hasCorners_164 _ _ k17 hk17 k26 hk26 _ _ _ _ _ _ _ _ _ _ _ h
set_option maxHeartbeats 1000000 in
theorem dt_J_Mo_hasCorners_138 (S : GS) (post : Int32 → Prop) (k17 : (Int32 → Prop) → Int32 → Int32 → Int32 → Int32 → Int32 → Int32 → Prop) (hk17 : ∀ (z0 : Int32) (z1 : Int32) (z2 : Int32) (z3 : Int32) (z4 : Int32) (z5 : Int32), k17 post z0 z1 z2 z3 z4 z5 → D1 post (fun P => k17 P z0 z1 z2 z3 z4 z5)) (k26 : (Int32 → Prop) → Int32 → Int32 → Int32 → Int32 → Int32 → Int32 → Int32 → Prop) (hk26 : ∀ (z0 : Int32) (z1 : Int32) (z2 : Int32) (z3 : Int32) (z4 : Int32) (z5 : Int32) (z6 : Int32), k26 post z0 z1 z2 z3 z4 z5 z6 → D1 post (fun P => k26 P z0 z1 z2 z3 z4 z5 z6)) (x1 : Int32) (x2 : Int32) (x3 : Int32) (x4 : Int32) (x5 : Int32) (x6 : Int32) (x7 : Int32) (x8 : Int32) (x9 : Int32) (x10 : Int32) (h : J_Mo_hasCorners_138 S post (k17 post) (k26 post) x1 x2 x3 x4 x5 x6 x7 x8 x9 x10) : D1 post (fun P => J_Mo_hasCorners_138 S P (k17 P) (k26 P) x1 x2 x3 x4 x5 x6 x7 x8 x9 x10) := by
  unfold J_Mo_hasCorners_138 at h ⊢
  exact dt_J_Mo_hasCorners_139 _ _ k17 hk17 k26 hk26 _ _ _ _ _ _ _ _ _ _ _ h
set_option maxHeartbeats 1000000 in
theorem dt_J_Mo_hasCorners_100 (S : GS) (post : Int32 → Prop) (k17 : (Int32 → Prop) → Int32 → Int32 → Int32 → Int32 → Int32 → Int32 → Prop) (hk17 : ∀ (z0 : Int32) (z1 : Int32) (z2 : Int32) (z3 : Int32) (z4 : Int32) (z5 : Int32), k17 post z0 z1 z2 z3 z4 z5 → D1 post (fun P => k17 P z0 z1 z2 z3 z4 z5)) (k26 : (Int32 → Prop) → Int32 → Int32 → Int32 → Int32 → Int32 → Int32 → Int32 → Prop) (hk26 : ∀ (z0 : Int32) (z1 : Int32) (z2 : Int32) (z3 : Int32) (z4 : Int32) (z5 : Int32) (z6 : Int32), k26 post z0 z1 z2 z3 z4 z5 z6 → D1 post (fun P => k26 P z0 z1 z2 z3 z4 z5 z6)) (x1 : Int32) (x2 : Int32) (x3 : Int32) (x4 : Int32) (x5 : Int32) (x6 : Int32) (x7 : Int32) (x8 : Int32) (x9 : Int32) (x10 : Int32) (h : J_Mo_hasCorners_100 S post (k17 post) (k26 post) x1 x2 x3 x4 x5 x6 x7 x8 x9 x10) : D1 post (fun P => J_Mo_hasCorners_100 S P (k17 P) (k26 P) x1 x2 x3 x4 x5 x6 x7 x8 x9 x10) := by
  unfold J_Mo_hasCorners_100 at h ⊢
  exact dt_J_Mo_hasCorners_139 _ _ k17 hk17 k26 hk26 _ _ _ _ _ _ _ _ _ _ _ h
set_option maxHeartbeats 1000000 in
theorem dt_L_Mo_hasCorners_26 (S : GS) (post : Int32 → Prop) (k17 : (Int32 → Prop) → Int32 → Int32 → Int32 → Int32 → Int32 → Int32 → Prop) (hk17 : ∀ (z0 : Int32) (z1 : Int32) (z2 : Int32) (z3 : Int32) (z4 : Int32) (z5 : Int32), k17 post z0 z1 z2 z3 z4 z5 → D1 post (fun P => k17 P z0 z1 z2 z3 z4 z5)) : ∀ (n : Nat) (x1 : Int32) (x2 : Int32) (x3 : Int32) (x4 : Int32) (x5 : Int32) (x6 : Int32) (x7 : Int32), L_Mo_hasCorners_26 S post (k17 post) n x1 x2 x3 x4 x5 x6 x7 → D1 post (fun P => L_Mo_hasCorners_26 S P (k17 P) n x1 x2 x3 x4 x5 x6 x7) := by
  intro n
  induction n with
  | zero => intro x1 x2 x3 x4 x5 x6 x7 h; exact False.elim h
  | succ n26 ih =>
    intro x1 x2 x3 x4 x5 x6 x7 h
    simp only [L_Mo_hasCorners_26] at h ⊢
    by_cases hc18 : (6 : Int32) ≤ x7
    · refine D1.t hc18 ?_
      replace h := h.1 hc18
      exact hk17 _ _ _ _ _ _ h
    refine D1.f hc18 ?_
    replace h := h.2 hc18
    by_cases hc19 : x2 = (0 : Int32)
    · refine D1.t hc19 ?_
      replace h := h.1 hc19
      refine D1.a h.1 ?_
      replace h := h.2
      by_cases hc20 : ((S.1 9) (((6 : Int32) * x3) + x7).toNatClampNeg) = (0 : Int32)
      · refine D1.t hc20 ?_
        replace h := h.1 hc20
        exact dt_J_Mo_hasCorners_138 _ _ k17 hk17 (fun P z0 z1 z2 z3 z4 z5 z6 => L_Mo_hasCorners_26 S P (k17 P) n26 z0 z1 z2 z3 z4 z5 z6) (fun z0 z1 z2 z3 z4 z5 z6 h => ih z0 z1 z2 z3 z4 z5 z6 h) _ _ _ _ _ _ _ _ _ _ h
      refine D1.f hc20 ?_
      replace h := h.2 hc20
      refine D1.a h.1 ?_
      replace h := h.2
      by_cases hc21 : ((S.1 9) (((6 : Int32) * x6) + x4).toNatClampNeg) = (0 : Int32)
      · refine D1.t hc21 ?_
        replace h := h.1 hc21
        exact dt_J_Mo_hasCorners_138 _ _ k17 hk17 (fun P z0 z1 z2 z3 z4 z5 z6 => L_Mo_hasCorners_26 S P (k17 P) n26 z0 z1 z2 z3 z4 z5 z6) (fun z0 z1 z2 z3 z4 z5 z6 h => ih z0 z1 z2 z3 z4 z5 z6 h) _ _ _ _ _ _ _ _ _ _ h
      refine D1.f hc21 ?_
      replace h := h.2 hc21
      refine D1.a h.1 ?_
      replace h := h.2
      by_cases hc22 : ((S.1 9) (((6 : Int32) * x6) + x7).toNatClampNeg) = (0 : Int32)
      · refine D1.t hc22 ?_
        replace h := h.1 hc22
        exact dt_J_Mo_hasCorners_138 _ _ k17 hk17 (fun P z0 z1 z2 z3 z4 z5 z6 => L_Mo_hasCorners_26 S P (k17 P) n26 z0 z1 z2 z3 z4 z5 z6) (fun z0 z1 z2 z3 z4 z5 z6 h => ih z0 z1 z2 z3 z4 z5 z6 h) _ _ _ _ _ _ _ _ _ _ h
      refine D1.f hc22 ?_
      replace h := h.2 hc22
      exact dt_J_Mo_hasCorners_139 _ _ k17 hk17 (fun P z0 z1 z2 z3 z4 z5 z6 => L_Mo_hasCorners_26 S P (k17 P) n26 z0 z1 z2 z3 z4 z5 z6) (fun z0 z1 z2 z3 z4 z5 z6 h => ih z0 z1 z2 z3 z4 z5 z6 h) _ _ _ _ _ _ _ _ _ _ _ h
    refine D1.f hc19 ?_
    replace h := h.2 hc19
    refine D1.a h.1 ?_
    replace h := h.2
    by_cases hc23 : ((S.1 11) (((6 : Int32) * x3) + x7).toNatClampNeg) = (0 : Int32)
    · refine D1.t hc23 ?_
      replace h := h.1 hc23
      exact dt_J_Mo_hasCorners_100 _ _ k17 hk17 (fun P z0 z1 z2 z3 z4 z5 z6 => L_Mo_hasCorners_26 S P (k17 P) n26 z0 z1 z2 z3 z4 z5 z6) (fun z0 z1 z2 z3 z4 z5 z6 h => ih z0 z1 z2 z3 z4 z5 z6 h) _ _ _ _ _ _ _ _ _ _ h
    refine D1.f hc23 ?_
    replace h := h.2 hc23
    refine D1.a h.1 ?_
    replace h := h.2
    by_cases hc24 : ((S.1 11) (((6 : Int32) * x6) + x4).toNatClampNeg) = (0 : Int32)
    · refine D1.t hc24 ?_
      replace h := h.1 hc24
      exact dt_J_Mo_hasCorners_100 _ _ k17 hk17 (fun P z0 z1 z2 z3 z4 z5 z6 => L_Mo_hasCorners_26 S P (k17 P) n26 z0 z1 z2 z3 z4 z5 z6) (fun z0 z1 z2 z3 z4 z5 z6 h => ih z0 z1 z2 z3 z4 z5 z6 h) _ _ _ _ _ _ _ _ _ _ h
    refine D1.f hc24 ?_
    replace h := h.2 hc24
    refine D1.a h.1 ?_
    replace h := h.2
    by_cases hc25 : ((S.1 11) (((6 : Int32) * x6) + x7).toNatClampNeg) = (0 : Int32)
    · refine D1.t hc25 ?_
      replace h := h.1 hc25
      exact dt_J_Mo_hasCorners_100 _ _ k17 hk17 (fun P z0 z1 z2 z3 z4 z5 z6 => L_Mo_hasCorners_26 S P (k17 P) n26 z0 z1 z2 z3 z4 z5 z6) (fun z0 z1 z2 z3 z4 z5 z6 h => ih z0 z1 z2 z3 z4 z5 z6 h) _ _ _ _ _ _ _ _ _ _ h
    refine D1.f hc25 ?_
    replace h := h.2 hc25
    exact dt_J_Mo_hasCorners_139 _ _ k17 hk17 (fun P z0 z1 z2 z3 z4 z5 z6 => L_Mo_hasCorners_26 S P (k17 P) n26 z0 z1 z2 z3 z4 z5 z6) (fun z0 z1 z2 z3 z4 z5 z6 h => ih z0 z1 z2 z3 z4 z5 z6 h) _ _ _ _ _ _ _ _ _ _ _ h
set_option maxHeartbeats 1000000 in
theorem dt_L_Mo_hasCorners_17 (S : GS) (post : Int32 → Prop) : ∀ (n : Nat) (x1 : Int32) (x2 : Int32) (x3 : Int32) (x4 : Int32) (x5 : Int32) (x6 : Int32), L_Mo_hasCorners_17 S post n x1 x2 x3 x4 x5 x6 → D1 post (fun P => L_Mo_hasCorners_17 S P n x1 x2 x3 x4 x5 x6) := by
  intro n
  induction n with
  | zero => intro x1 x2 x3 x4 x5 x6 h; exact False.elim h
  | succ n17 ih =>
    intro x1 x2 x3 x4 x5 x6 h
    simp only [L_Mo_hasCorners_17] at h ⊢
    by_cases hc26 : (4 : Int32) ≤ x6
    · refine D1.t hc26 ?_
      replace h := h.1 hc26
      refine D1.a h.1 ?_
      replace h := h.2
      exact D1.p h
    refine D1.f hc26 ?_
    replace h := h.2 hc26
    obtain ⟨q26, h⟩ := h
    refine D1.e q26 ?_
    exact dt_L_Mo_hasCorners_26 _ _ (fun P z0 z1 z2 z3 z4 z5 => L_Mo_hasCorners_17 S P n17 z0 z1 z2 z3 z4 z5) (fun z0 z1 z2 z3 z4 z5 h => ih z0 z1 z2 z3 z4 z5 h) _ _ _ _ _ _ _ _ h
set_option maxHeartbeats 1000000 in
theorem dt_wp_Mo_hasCorners (S : GS) (p0 : Int32) (p1 : Int32) (post : Int32 → Prop) (h : wp_Mo_hasCorners S p0 p1 post) : D1 post (fun P => wp_Mo_hasCorners S p0 p1 P) := by
  unfold wp_Mo_hasCorners at h ⊢
  obtain ⟨q17, h⟩ := h
  refine D1.e q17 ?_
  exact dt_L_Mo_hasCorners_17 _ _ _ _ _ _ _ _ _ h
set_option maxHeartbeats 1000000 in
theorem dt_J_Mo_look_44 (post : GS → Prop) (k2 : (GS → Prop) → Int32 → GS → Prop) (hk2 : ∀ (z0 : Int32) (z1 : GS), k2 post z0 z1 → D1 post (fun P => k2 P z0 z1)) (x1 : Int32) (y1 : Int32) (y2 : Int32) (S : GS) (h : J_Mo_look_44 post (k2 post) x1 y1 y2 S) : D1 post (fun P => J_Mo_look_44 P (k2 P) x1 y1 y2 S) := by
  unfold J_Mo_look_44 at h ⊢
  refine D1.a h.1 ?_
  replace h := h.2
  refine D1.a h.1 ?_
  replace h := h.2
  refine D1.a h.1 ?_
  replace h := h.2
  exact hk2 _ _ h
set_option maxHeartbeats 1000000 in
theorem dt_J_Mo_look_36 (post : GS → Prop) (k2 : (GS → Prop) → Int32 → GS → Prop) (hk2 : ∀ (z0 : Int32) (z1 : GS), k2 post z0 z1 → D1 post (fun P => k2 P z0 z1)) (x1 : Int32) (y1 : Int32) (y2 : Int32) (y3 : Int32) (S : GS) (h : J_Mo_look_36 post (k2 post) x1 y1 y2 y3 S) : D1 post (fun P => J_Mo_look_36 P (k2 P) x1 y1 y2 y3 S) := by
  unfold J_Mo_look_36 at h ⊢
  by_cases hc27 : y2 = y3
  · refine D1.t hc27 ?_
    replace h := h.1 hc27
    exact dt_J_Mo_look_44 _ k2 hk2 _ _ _ _ h
  refine D1.f hc27 ?_
  replace h := h.2 hc27
  exact dt_J_Mo_look_44 _ k2 hk2 _ _ _ _ h
set_option maxHeartbeats 1000000 in
theorem dt_J_Mo_look_101 (post : GS → Prop) (k67 : (GS → Prop) → Int32 → GS → Prop) (hk67 : ∀ (z0 : Int32) (z1 : GS), k67 post z0 z1 → D1 post (fun P => k67 P z0 z1)) (x1 : Int32) (y1 : Int32) (y2 : Int32) (S : GS) (h : J_Mo_look_101 post (k67 post) x1 y1 y2 S) : D1 post (fun P => J_Mo_look_101 P (k67 P) x1 y1 y2 S) := by
  unfold J_Mo_look_101 at h ⊢
  refine D1.a h.1 ?_
  replace h := h.2
  refine D1.a h.1 ?_
  replace h := h.2
  refine D1.a h.1 ?_
  replace h := h.2
  by_cases hc28 : ((upd (S.1 10) (y1).toNatClampNeg (vp_nar .boolean y2)) x1.toNatClampNeg) = ((S.1 11) x1.toNatClampNeg)
  · refine D1.t hc28 ?_
    replace h := h.1 hc28
    refine D1.a h.1 ?_
    replace h := h.2
    exact hk67 _ _ h
  refine D1.f hc28 ?_
  replace h := h.2 hc28
  refine D1.a h.1 ?_
  replace h := h.2
  refine D1.a h.1 ?_
  replace h := h.2
  exact hk67 _ _ h
set_option maxHeartbeats 1000000 in
theorem dt_J_Mo_look_96 (post : GS → Prop) (k67 : (GS → Prop) → Int32 → GS → Prop) (hk67 : ∀ (z0 : Int32) (z1 : GS), k67 post z0 z1 → D1 post (fun P => k67 P z0 z1)) (x1 : Int32) (y1 : Int32) (S : GS) (h : J_Mo_look_96 post (k67 post) x1 y1 S) : D1 post (fun P => J_Mo_look_96 P (k67 P) x1 y1 S) := by
  unfold J_Mo_look_96 at h ⊢
  exact dt_J_Mo_look_101 _ k67 hk67 _ _ _ _ h
set_option maxHeartbeats 1000000 in
theorem dt_L_Mo_look_143 (post : GS → Prop) : ∀ (n : Nat) (x1 : Int32) (S : GS), L_Mo_look_143 post n x1 S → D1 post (fun P => L_Mo_look_143 P n x1 S) := by
  intro n
  induction n with
  | zero => intro x1 S h; exact False.elim h
  | succ n143 ih =>
    intro x1 S h
    simp only [L_Mo_look_143] at h ⊢
    by_cases hc29 : (24 : Int32) ≤ x1
    · refine D1.t hc29 ?_
      replace h := h.1 hc29
      exact D1.p h
    refine D1.f hc29 ?_
    replace h := h.2 hc29
    refine D1.a h.1 ?_
    replace h := h.2
    by_cases hc30 : ((S.1 12) x1.toNatClampNeg) = (5 : Int32)
    · refine D1.t hc30 ?_
      replace h := h.1 hc30
      refine D1.a h.1 ?_
      replace h := h.2
      refine D1.a h.1 ?_
      replace h := h.2
      refine D1.a h.1 ?_
      replace h := h.2
      exact ih _ _ h
    refine D1.f hc30 ?_
    replace h := h.2 hc30
    exact ih _ _ h
set_option maxHeartbeats 1000000 in
theorem dt_L_Mo_look_67 (post : GS → Prop) : ∀ (n : Nat) (x1 : Int32) (S : GS), L_Mo_look_67 post n x1 S → D1 post (fun P => L_Mo_look_67 P n x1 S) := by
  intro n
  induction n with
  | zero => intro x1 S h; exact False.elim h
  | succ n67 ih =>
    intro x1 S h
    simp only [L_Mo_look_67] at h ⊢
    by_cases hc31 : (24 : Int32) ≤ x1
    · refine D1.t hc31 ?_
      replace h := h.1 hc31
      obtain ⟨q143, h⟩ := h
      refine D1.e q143 ?_
      exact dt_L_Mo_look_143 _ _ _ _ h
    refine D1.f hc31 ?_
    replace h := h.2 hc31
    refine D1.a h.1 ?_
    replace h := h.2
    by_cases hc32 : ((S.1 9) x1.toNatClampNeg) = (0 : Int32)
    · refine D1.t hc32 ?_
      replace h := h.1 hc32
      refine D1.c1 (dt_wp_Mo_hasCorners _ _ _ _ h) (fun r90 h => ?_)
      by_cases hc33 : r90 = (0 : Int32)
      · refine D1.t hc33 ?_
        replace h := h.1 hc33
        exact dt_J_Mo_look_101 _ (fun P z0 z1 => L_Mo_look_67 P n67 z0 z1) (fun z0 z1 h => ih z0 z1 h) _ _ _ _ h
      refine D1.f hc33 ?_
      replace h := h.2 hc33
      exact dt_J_Mo_look_96 _ (fun P z0 z1 => L_Mo_look_67 P n67 z0 z1) (fun z0 z1 h => ih z0 z1 h) _ _ _ h
    refine D1.f hc32 ?_
    replace h := h.2 hc32
    exact dt_J_Mo_look_96 _ (fun P z0 z1 => L_Mo_look_67 P n67 z0 z1) (fun z0 z1 h => ih z0 z1 h) _ _ _ h
set_option maxHeartbeats 1000000 in
theorem dt_L_Mo_look_2 (post : GS → Prop) : ∀ (n : Nat) (x1 : Int32) (S : GS), L_Mo_look_2 post n x1 S → D1 post (fun P => L_Mo_look_2 P n x1 S) := by
  intro n
  induction n with
  | zero => intro x1 S h; exact False.elim h
  | succ n2 ih =>
    intro x1 S h
    simp only [L_Mo_look_2] at h ⊢
    by_cases hc34 : (24 : Int32) ≤ x1
    · refine D1.t hc34 ?_
      replace h := h.1 hc34
      obtain ⟨q67, h⟩ := h
      refine D1.e q67 ?_
      exact dt_L_Mo_look_67 _ _ _ _ h
    refine D1.f hc34 ?_
    replace h := h.2 hc34
    refine D1.a h.1 ?_
    replace h := h.2
    refine D1.a h.1 ?_
    replace h := h.2
    by_cases hc35 : (((S.1 8) x1.toNatClampNeg) &&& (1 : Int32)) = (1 : Int32)
    · refine D1.t hc35 ?_
      replace h := h.1 hc35
      exact dt_J_Mo_look_36 _ (fun P z0 z1 => L_Mo_look_2 P n2 z0 z1) (fun z0 z1 h => ih z0 z1 h) _ _ _ _ _ h
    refine D1.f hc35 ?_
    replace h := h.2 hc35
    exact dt_J_Mo_look_36 _ (fun P z0 z1 => L_Mo_look_2 P n2 z0 z1) (fun z0 z1 h => ih z0 z1 h) _ _ _ _ _ h
set_option maxHeartbeats 1000000 in
theorem dt_wp_Mo_look (S : GS) (post : GS → Prop) (h : wp_Mo_look S post) : D1 post (fun P => wp_Mo_look S P) := by
  unfold wp_Mo_look at h ⊢
  obtain ⟨q2, h⟩ := h
  refine D1.e q2 ?_
  exact dt_L_Mo_look_2 _ _ _ _ h
set_option maxHeartbeats 1000000 in
theorem dt_L_Mo_bring_40 (post : GS → Prop) : ∀ (n : Nat) (x1 : Int32) (x2 : Int32) (x3 : Int32) (S : GS), L_Mo_bring_40 post n x1 x2 x3 S → D1 post (fun P => L_Mo_bring_40 P n x1 x2 x3 S) := by
  intro n
  induction n with
  | zero => intro x1 x2 x3 S h; exact False.elim h
  | succ n40 ih =>
    intro x1 x2 x3 S h
    simp only [L_Mo_bring_40] at h ⊢
    by_cases hc36 : x3 ≤ (0 : Int32)
    · refine D1.t hc36 ?_
      replace h := h.1 hc36
      refine D1.a h.1 ?_
      replace h := h.2
      exact D1.p h
    refine D1.f hc36 ?_
    replace h := h.2 hc36
    refine D1.a h.1 ?_
    replace h := h.2
    refine D1.a h.1 ?_
    replace h := h.2
    exact ih _ _ _ _ h
set_option maxHeartbeats 1000000 in
theorem dt_wp_Mo_bring (S : GS) (p0 : Int32) (p1 : Int32) (post : GS → Prop) (h : wp_Mo_bring S p0 p1 post) : D1 post (fun P => wp_Mo_bring S p0 p1 P) := by
  unfold wp_Mo_bring at h ⊢
  refine D1.a h.1 ?_
  replace h := h.2
  refine D1.a h.1 ?_
  replace h := h.2
  obtain ⟨q40, h⟩ := h
  refine D1.e q40 ?_
  exact dt_L_Mo_bring_40 _ _ _ _ _ _ h
set_option maxHeartbeats 1000000 in
theorem dt_J_Mo_believe_95 (post : Int32 → GS → Prop) (k4 : (Int32 → GS → Prop) → Int32 → Int32 → GS → Prop) (hk4 : ∀ (z0 : Int32) (z1 : Int32) (z2 : GS), k4 post z0 z1 z2 → D2 post (fun P => k4 P z0 z1 z2)) (x1 : Int32) (x2 : Int32) (x3 : Int32) (x4 : Int32) (y1 : Int32) (y2 : Int32) (S : GS) (h : J_Mo_believe_95 post (k4 post) x1 x2 x3 x4 y1 y2 S) : D2 post (fun P => J_Mo_believe_95 P (k4 P) x1 x2 x3 x4 y1 y2 S) := by
  unfold J_Mo_believe_95 at h ⊢
  refine D2.c1 (dt_wp_Mo_bring _ _ _ _ h) (fun S95 h => ?_)
  exact hk4 _ _ _ h
set_option maxHeartbeats 1000000 in
theorem dt_J_Mo_believe_77 (post : Int32 → GS → Prop) (k4 : (Int32 → GS → Prop) → Int32 → Int32 → GS → Prop) (hk4 : ∀ (z0 : Int32) (z1 : Int32) (z2 : GS), k4 post z0 z1 z2 → D2 post (fun P => k4 P z0 z1 z2)) (x1 : Int32) (x2 : Int32) (x3 : Int32) (x4 : Int32) (S : GS) (h : J_Mo_believe_77 post (k4 post) x1 x2 x3 x4 S) : D2 post (fun P => J_Mo_believe_77 P (k4 P) x1 x2 x3 x4 S) := by
  unfold J_Mo_believe_77 at h ⊢
  refine D2.a h.1 ?_
  replace h := h.2
  by_cases hc37 : x3 = (0 : Int32)
  · refine D2.t hc37 ?_
    replace h := h.1 hc37
    exact dt_J_Mo_believe_95 _ k4 hk4 _ _ _ _ _ _ _ h
  refine D2.f hc37 ?_
  replace h := h.2 hc37
  exact dt_J_Mo_believe_95 _ k4 hk4 _ _ _ _ _ _ _ h
set_option maxHeartbeats 1000000 in
theorem dt_J_Mo_believe_66 (post : Int32 → GS → Prop) (k4 : (Int32 → GS → Prop) → Int32 → Int32 → GS → Prop) (hk4 : ∀ (z0 : Int32) (z1 : Int32) (z2 : GS), k4 post z0 z1 z2 → D2 post (fun P => k4 P z0 z1 z2)) (x1 : Int32) (x2 : Int32) (x3 : Int32) (y0 : Int32) (S : GS) (h : J_Mo_believe_66 post (k4 post) x1 x2 x3 y0 S) : D2 post (fun P => J_Mo_believe_66 P (k4 P) x1 x2 x3 y0 S) := by
  unfold J_Mo_believe_66 at h ⊢
  by_cases hc38 : x3 = (0 : Int32)
  · refine D2.t hc38 ?_
    replace h := h.1 hc38
    by_cases hc39 : y0 = (0 : Int32)
    · refine D2.t hc39 ?_
      replace h := h.1 hc39
      exact hk4 _ _ _ h
    refine D2.f hc39 ?_
    replace h := h.2 hc39
    exact dt_J_Mo_believe_77 _ k4 hk4 _ _ _ _ _ h
  refine D2.f hc38 ?_
  replace h := h.2 hc38
  exact dt_J_Mo_believe_77 _ k4 hk4 _ _ _ _ _ h
set_option maxHeartbeats 1000000 in
theorem dt_J_Mo_believe_65 (post : Int32 → GS → Prop) (k4 : (Int32 → GS → Prop) → Int32 → Int32 → GS → Prop) (hk4 : ∀ (z0 : Int32) (z1 : Int32) (z2 : GS), k4 post z0 z1 z2 → D2 post (fun P => k4 P z0 z1 z2)) (x1 : Int32) (x2 : Int32) (x3 : Int32) (S : GS) (h : J_Mo_believe_65 post (k4 post) x1 x2 x3 S) : D2 post (fun P => J_Mo_believe_65 P (k4 P) x1 x2 x3 S) := by
  unfold J_Mo_believe_65 at h ⊢
  exact dt_J_Mo_believe_66 _ k4 hk4 _ _ _ _ _ h
set_option maxHeartbeats 1000000 in
theorem dt_J_Mo_believe_42 (post : Int32 → GS → Prop) (k4 : (Int32 → GS → Prop) → Int32 → Int32 → GS → Prop) (hk4 : ∀ (z0 : Int32) (z1 : Int32) (z2 : GS), k4 post z0 z1 z2 → D2 post (fun P => k4 P z0 z1 z2)) (x1 : Int32) (x2 : Int32) (y0 : Int32) (S : GS) (h : J_Mo_believe_42 post (k4 post) x1 x2 y0 S) : D2 post (fun P => J_Mo_believe_42 P (k4 P) x1 x2 y0 S) := by
  unfold J_Mo_believe_42 at h ⊢
  refine D2.a h.1 ?_
  replace h := h.2
  by_cases hc40 : ((S.1 13) x2.toNatClampNeg) = (0 : Int32)
  · refine D2.t hc40 ?_
    replace h := h.1 hc40
    exact dt_J_Mo_believe_65 _ k4 hk4 _ _ _ _ h
  refine D2.f hc40 ?_
  replace h := h.2 hc40
  refine D2.a h.1 ?_
  replace h := h.2
  by_cases hc41 : ((S.1 11) x2.toNatClampNeg) = (0 : Int32)
  · refine D2.t hc41 ?_
    replace h := h.1 hc41
    exact dt_J_Mo_believe_66 _ k4 hk4 _ _ _ _ _ h
  refine D2.f hc41 ?_
  replace h := h.2 hc41
  exact dt_J_Mo_believe_65 _ k4 hk4 _ _ _ _ h
set_option maxHeartbeats 1000000 in
theorem dt_J_Mo_believe_41 (post : Int32 → GS → Prop) (k4 : (Int32 → GS → Prop) → Int32 → Int32 → GS → Prop) (hk4 : ∀ (z0 : Int32) (z1 : Int32) (z2 : GS), k4 post z0 z1 z2 → D2 post (fun P => k4 P z0 z1 z2)) (x1 : Int32) (x2 : Int32) (S : GS) (h : J_Mo_believe_41 post (k4 post) x1 x2 S) : D2 post (fun P => J_Mo_believe_41 P (k4 P) x1 x2 S) := by
  unfold J_Mo_believe_41 at h ⊢
  exact dt_J_Mo_believe_42 _ k4 hk4 _ _ _ _ h
set_option maxHeartbeats 1000000 in
theorem dt_L_Mo_believe_4 (post : Int32 → GS → Prop) : ∀ (n : Nat) (x1 : Int32) (x2 : Int32) (S : GS), L_Mo_believe_4 post n x1 x2 S → D2 post (fun P => L_Mo_believe_4 P n x1 x2 S) := by
  intro n
  induction n with
  | zero => intro x1 x2 S h; exact False.elim h
  | succ n4 ih =>
    intro x1 x2 S h
    simp only [L_Mo_believe_4] at h ⊢
    by_cases hc42 : (24 : Int32) ≤ x2
    · refine D2.t hc42 ?_
      replace h := h.1 hc42
      exact D2.p h
    refine D2.f hc42 ?_
    replace h := h.2 hc42
    refine D2.a h.1 ?_
    replace h := h.2
    by_cases hc43 : ((S.1 11) x2.toNatClampNeg) = (0 : Int32)
    · refine D2.t hc43 ?_
      replace h := h.1 hc43
      exact dt_J_Mo_believe_41 _ (fun P z0 z1 z2 => L_Mo_believe_4 P n4 z0 z1 z2) (fun z0 z1 z2 h => ih z0 z1 z2 h) _ _ _ h
    refine D2.f hc43 ?_
    replace h := h.2 hc43
    refine D2.a h.1 ?_
    replace h := h.2
    by_cases hc44 : ((S.1 13) x2.toNatClampNeg) = (0 : Int32)
    · refine D2.t hc44 ?_
      replace h := h.1 hc44
      refine D2.c1 (dt_wp_Mo_hasCorners _ _ _ _ h) (fun r31 h => ?_)
      by_cases hc45 : r31 = (0 : Int32)
      · refine D2.t hc45 ?_
        replace h := h.1 hc45
        exact dt_J_Mo_believe_42 _ (fun P z0 z1 z2 => L_Mo_believe_4 P n4 z0 z1 z2) (fun z0 z1 z2 h => ih z0 z1 z2 h) _ _ _ _ h
      refine D2.f hc45 ?_
      replace h := h.2 hc45
      exact dt_J_Mo_believe_41 _ (fun P z0 z1 z2 => L_Mo_believe_4 P n4 z0 z1 z2) (fun z0 z1 z2 h => ih z0 z1 z2 h) _ _ _ h
    refine D2.f hc44 ?_
    replace h := h.2 hc44
    exact dt_J_Mo_believe_41 _ (fun P z0 z1 z2 => L_Mo_believe_4 P n4 z0 z1 z2) (fun z0 z1 z2 h => ih z0 z1 z2 h) _ _ _ h
set_option maxHeartbeats 1000000 in
theorem dt_wp_Mo_believe (S : GS) (post : Int32 → GS → Prop) (h : wp_Mo_believe S post) : D2 post (fun P => wp_Mo_believe S P) := by
  unfold wp_Mo_believe at h ⊢
  obtain ⟨q4, h⟩ := h
  refine D2.e q4 ?_
  exact dt_L_Mo_believe_4 _ _ _ _ _ h
set_option maxHeartbeats 1000000 in
theorem dt_J_Mo_isOn_60 (S : GS) (post : Int32 → Prop) (k30 : (Int32 → Prop) → Int32 → Int32 → Int32 → Prop) (hk30 : ∀ (z0 : Int32) (z1 : Int32) (z2 : Int32), k30 post z0 z1 z2 → D1 post (fun P => k30 P z0 z1 z2)) (x1 : Int32) (x2 : Int32) (x3 : Int32) (h : J_Mo_isOn_60 S post (k30 post) x1 x2 x3) : D1 post (fun P => J_Mo_isOn_60 S P (k30 P) x1 x2 x3) := by
  unfold J_Mo_isOn_60 at h ⊢
  exact hk30 _ _ _ h
set_option maxHeartbeats 1000000 in
theorem dt_L_Mo_isOn_30 (S : GS) (post : Int32 → Prop) : ∀ (n : Nat) (x1 : Int32) (x2 : Int32) (x3 : Int32), L_Mo_isOn_30 S post n x1 x2 x3 → D1 post (fun P => L_Mo_isOn_30 S P n x1 x2 x3) := by
  intro n
  induction n with
  | zero => intro x1 x2 x3 h; exact False.elim h
  | succ n30 ih =>
    intro x1 x2 x3 h
    simp only [L_Mo_isOn_30] at h ⊢
    by_cases hc46 : (24 : Int32) ≤ x3
    · refine D1.t hc46 ?_
      replace h := h.1 hc46
      refine D1.a h.1 ?_
      replace h := h.2
      exact D1.p h
    refine D1.f hc46 ?_
    replace h := h.2 hc46
    by_cases hc47 : x2 = (0 : Int32)
    · refine D1.t hc47 ?_
      replace h := h.1 hc47
      refine D1.a h.1 ?_
      replace h := h.2
      by_cases hc48 : ((S.1 25) x3.toNatClampNeg) = (2 : Int32)
      · refine D1.t hc48 ?_
        replace h := h.1 hc48
        refine D1.a h.1 ?_
        replace h := h.2
        by_cases hc49 : ((S.1 26) x3.toNatClampNeg) = x1
        · refine D1.t hc49 ?_
          replace h := h.1 hc49
          exact dt_J_Mo_isOn_60 _ _ (fun P z0 z1 z2 => L_Mo_isOn_30 S P n30 z0 z1 z2) (fun z0 z1 z2 h => ih z0 z1 z2 h) _ _ _ h
        refine D1.f hc49 ?_
        replace h := h.2 hc49
        exact ih _ _ _ h
      refine D1.f hc48 ?_
      replace h := h.2 hc48
      exact ih _ _ _ h
    refine D1.f hc47 ?_
    replace h := h.2 hc47
    exact dt_J_Mo_isOn_60 _ _ (fun P z0 z1 z2 => L_Mo_isOn_30 S P n30 z0 z1 z2) (fun z0 z1 z2 h => ih z0 z1 z2 h) _ _ _ h
set_option maxHeartbeats 1000000 in
theorem dt_J_Mo_isOn_22 (S : GS) (post : Int32 → Prop) (x1 : Int32) (h : J_Mo_isOn_22 S post x1) : D1 post (fun P => J_Mo_isOn_22 S P x1) := by
  unfold J_Mo_isOn_22 at h ⊢
  obtain ⟨q30, h⟩ := h
  refine D1.e q30 ?_
  exact dt_L_Mo_isOn_30 _ _ _ _ _ _ h
set_option maxHeartbeats 1000000 in
theorem dt_wp_Mo_isOn (S : GS) (p0 : Int32) (post : Int32 → Prop) (h : wp_Mo_isOn S p0 post) : D1 post (fun P => wp_Mo_isOn S p0 P) := by
  unfold wp_Mo_isOn at h ⊢
  by_cases hc50 : p0 = (0 : Int32)
  · refine D1.t hc50 ?_
    replace h := h.1 hc50
    exact dt_J_Mo_isOn_22 _ _ _ h
  refine D1.f hc50 ?_
  replace h := h.2 hc50
  refine D1.a h.1 ?_
  replace h := h.2
  by_cases hc51 : ((S.1 23) p0.toNatClampNeg) = (0 : Int32)
  · refine D1.t hc51 ?_
    replace h := h.1 hc51
    refine D1.a h.1 ?_
    replace h := h.2
    by_cases hc52 : ((S.1 24) p0.toNatClampNeg) = (0 : Int32)
    · refine D1.t hc52 ?_
      replace h := h.1 hc52
      obtain ⟨q30, h⟩ := h
      refine D1.e q30 ?_
      exact dt_L_Mo_isOn_30 _ _ _ _ _ _ h
    refine D1.f hc52 ?_
    replace h := h.2 hc52
    exact dt_J_Mo_isOn_22 _ _ _ h
  refine D1.f hc51 ?_
  replace h := h.2 hc51
  exact dt_J_Mo_isOn_22 _ _ _ h
set_option maxHeartbeats 1000000 in
theorem dt_L_Mo_topOf_4 (S : GS) (post : Int32 → Prop) : ∀ (n : Nat) (x1 : Int32) (x2 : Int32) (x3 : Int32), L_Mo_topOf_4 S post n x1 x2 x3 → D1 post (fun P => L_Mo_topOf_4 S P n x1 x2 x3) := by
  intro n
  induction n with
  | zero => intro x1 x2 x3 h; exact False.elim h
  | succ n4 ih =>
    intro x1 x2 x3 h
    simp only [L_Mo_topOf_4] at h ⊢
    by_cases hc53 : (4 : Int32) ≤ x3
    · refine D1.t hc53 ?_
      replace h := h.1 hc53
      exact D1.p h
    refine D1.f hc53 ?_
    replace h := h.2 hc53
    refine D1.c1 (dt_wp_Mo_isOn _ _ _ h) (fun r11 h => ?_)
    by_cases hc54 : r11 = (0 : Int32)
    · refine D1.t hc54 ?_
      replace h := h.1 hc54
      exact ih _ _ _ h
    refine D1.f hc54 ?_
    replace h := h.2 hc54
    refine D1.a h.1 ?_
    replace h := h.2
    by_cases hc55 : ((S.1 17) (((24 : Int32) * x3) + x1).toNatClampNeg) = (0 : Int32)
    · refine D1.t hc55 ?_
      replace h := h.1 hc55
      exact ih _ _ _ h
    refine D1.f hc55 ?_
    replace h := h.2 hc55
    exact ih _ _ _ h
set_option maxHeartbeats 1000000 in
theorem dt_wp_Mo_topOf (S : GS) (p0 : Int32) (post : Int32 → Prop) (h : wp_Mo_topOf S p0 post) : D1 post (fun P => wp_Mo_topOf S p0 P) := by
  unfold wp_Mo_topOf at h ⊢
  obtain ⟨q4, h⟩ := h
  refine D1.e q4 ?_
  exact dt_L_Mo_topOf_4 _ _ _ _ _ _ h
set_option maxHeartbeats 1000000 in
theorem dt_J_Mo_makeReport_136 (post : GS → Prop) (x1 : Int32) (x2 : Int32) (x3 : Int32) (S : GS) (h : J_Mo_makeReport_136 post x1 x2 x3 S) : D1 post (fun P => J_Mo_makeReport_136 P x1 x2 x3 S) := by
  unfold J_Mo_makeReport_136 at h ⊢
  refine D1.a h.1 ?_
  replace h := h.2
  exact D1.p h
set_option maxHeartbeats 1000000 in
theorem dt_J_Mo_makeReport_77 (post : GS → Prop) (k30 : (GS → Prop) → Int32 → Int32 → Int32 → GS → Prop) (hk30 : ∀ (z0 : Int32) (z1 : Int32) (z2 : Int32) (z3 : GS), k30 post z0 z1 z2 z3 → D1 post (fun P => k30 P z0 z1 z2 z3)) (x1 : Int32) (x2 : Int32) (x3 : Int32) (y0 : Int32) (S : GS) (h : J_Mo_makeReport_77 post (k30 post) x1 x2 x3 y0 S) : D1 post (fun P => J_Mo_makeReport_77 P (k30 P) x1 x2 x3 y0 S) := by
  unfold J_Mo_makeReport_77 at h ⊢
  by_cases hc56 : (100 : Int32) ≤ x3
  · refine D1.t hc56 ?_
    replace h := h.1 hc56
    exact hk30 _ _ _ _ h
  refine D1.f hc56 ?_
  replace h := h.2 hc56
  by_cases hc57 : (7 : Int32) ≤ y0
  · refine D1.t hc57 ?_
    replace h := h.1 hc57
    exact hk30 _ _ _ _ h
  refine D1.f hc57 ?_
  replace h := h.2 hc57
  refine D1.a h.1 ?_
  replace h := h.2
  exact hk30 _ _ _ _ h
set_option maxHeartbeats 1000000 in
theorem dt_J_Mo_makeReport_63 (post : GS → Prop) (k30 : (GS → Prop) → Int32 → Int32 → Int32 → GS → Prop) (hk30 : ∀ (z0 : Int32) (z1 : Int32) (z2 : Int32) (z3 : GS), k30 post z0 z1 z2 z3 → D1 post (fun P => k30 P z0 z1 z2 z3)) (x1 : Int32) (x2 : Int32) (x3 : Int32) (y0 : Int32) (S : GS) (h : J_Mo_makeReport_63 post (k30 post) x1 x2 x3 y0 S) : D1 post (fun P => J_Mo_makeReport_63 P (k30 P) x1 x2 x3 y0 S) := by
  unfold J_Mo_makeReport_63 at h ⊢
  by_cases hc58 : (100 : Int32) ≤ x3
  · refine D1.t hc58 ?_
    replace h := h.1 hc58
    exact dt_J_Mo_makeReport_77 _ k30 hk30 _ _ _ _ _ h
  refine D1.f hc58 ?_
  replace h := h.2 hc58
  exact dt_J_Mo_makeReport_77 _ k30 hk30 _ _ _ _ _ h
set_option maxHeartbeats 1000000 in
theorem dt_L_Mo_makeReport_108 (post : GS → Prop) : ∀ (n : Nat) (x1 : Int32) (x2 : Int32) (x3 : Int32) (S : GS), L_Mo_makeReport_108 post n x1 x2 x3 S → D1 post (fun P => L_Mo_makeReport_108 P n x1 x2 x3 S) := by
  intro n
  induction n with
  | zero => intro x1 x2 x3 S h; exact False.elim h
  | succ n108 ih =>
    intro x1 x2 x3 S h
    simp only [L_Mo_makeReport_108] at h ⊢
    by_cases hc59 : (7 : Int32) ≤ x3
    · refine D1.t hc59 ?_
      replace h := h.1 hc59
      exact dt_J_Mo_makeReport_136 _ _ _ _ _ h
    refine D1.f hc59 ?_
    replace h := h.2 hc59
    by_cases hc60 : x2 ≤ (6 : Int32)
    · refine D1.t hc60 ?_
      replace h := h.1 hc60
      exact dt_J_Mo_makeReport_136 _ _ _ _ _ h
    refine D1.f hc60 ?_
    replace h := h.2 hc60
    refine D1.a h.1 ?_
    replace h := h.2
    exact ih _ _ _ _ h
set_option maxHeartbeats 1000000 in
theorem dt_L_Mo_makeReport_30 (post : GS → Prop) : ∀ (n : Nat) (x1 : Int32) (x2 : Int32) (x3 : Int32) (S : GS), L_Mo_makeReport_30 post n x1 x2 x3 S → D1 post (fun P => L_Mo_makeReport_30 P n x1 x2 x3 S) := by
  intro n
  induction n with
  | zero => intro x1 x2 x3 S h; exact False.elim h
  | succ n30 ih =>
    intro x1 x2 x3 S h
    simp only [L_Mo_makeReport_30] at h ⊢
    by_cases hc61 : (108 : Int32) ≤ x3
    · refine D1.t hc61 ?_
      replace h := h.1 hc61
      obtain ⟨q108, h⟩ := h
      refine D1.e q108 ?_
      exact dt_L_Mo_makeReport_108 _ _ _ _ _ _ h
    refine D1.f hc61 ?_
    replace h := h.2 hc61
    refine D1.a h.1 ?_
    replace h := h.2
    by_cases hc62 : ((S.1 28) x3.toNatClampNeg) ≤ (0 : Int32)
    · refine D1.t hc62 ?_
      replace h := h.1 hc62
      exact ih _ _ _ _ h
    refine D1.f hc62 ?_
    replace h := h.2 hc62
    by_cases hc63 : x3 < (100 : Int32)
    · refine D1.t hc63 ?_
      replace h := h.1 hc63
      exact dt_J_Mo_makeReport_63 _ (fun P z0 z1 z2 z3 => L_Mo_makeReport_30 P n30 z0 z1 z2 z3) (fun z0 z1 z2 z3 h => ih z0 z1 z2 z3 h) _ _ _ _ _ h
    refine D1.f hc63 ?_
    replace h := h.2 hc63
    exact dt_J_Mo_makeReport_63 _ (fun P z0 z1 z2 z3 => L_Mo_makeReport_30 P n30 z0 z1 z2 z3) (fun z0 z1 z2 z3 h => ih z0 z1 z2 z3 h) _ _ _ _ _ h
set_option maxHeartbeats 1000000 in
theorem dt_L_Mo_makeReport_6 (post : GS → Prop) : ∀ (n : Nat) (x1 : Int32) (x2 : Int32) (x3 : Int32) (S : GS), L_Mo_makeReport_6 post n x1 x2 x3 S → D1 post (fun P => L_Mo_makeReport_6 P n x1 x2 x3 S) := by
  intro n
  induction n with
  | zero => intro x1 x2 x3 S h; exact False.elim h
  | succ n6 ih =>
    intro x1 x2 x3 S h
    simp only [L_Mo_makeReport_6] at h ⊢
    by_cases hc64 : (7 : Int32) ≤ x3
    · refine D1.t hc64 ?_
      replace h := h.1 hc64
      obtain ⟨q30, h⟩ := h
      refine D1.e q30 ?_
      exact dt_L_Mo_makeReport_30 _ _ _ _ _ _ h
    refine D1.f hc64 ?_
    replace h := h.2 hc64
    refine D1.a h.1 ?_
    replace h := h.2
    exact ih _ _ _ _ h
set_option maxHeartbeats 1000000 in
theorem dt_wp_Mo_makeReport (S : GS) (post : GS → Prop) (h : wp_Mo_makeReport S post) : D1 post (fun P => wp_Mo_makeReport S P) := by
  unfold wp_Mo_makeReport at h ⊢
  obtain ⟨q6, h⟩ := h
  refine D1.e q6 ?_
  exact dt_L_Mo_makeReport_6 _ _ _ _ _ _ h
set_option maxHeartbeats 1000000 in
theorem dt_L_Mo_copyReport_2 (post : GS → Prop) : ∀ (n : Nat) (x1 : Int32) (x2 : Int32) (x3 : Int32) (S : GS), L_Mo_copyReport_2 post n x1 x2 x3 S → D1 post (fun P => L_Mo_copyReport_2 P n x1 x2 x3 S) := by
  intro n
  induction n with
  | zero => intro x1 x2 x3 S h; exact False.elim h
  | succ n2 ih =>
    intro x1 x2 x3 S h
    simp only [L_Mo_copyReport_2] at h ⊢
    by_cases hc65 : (7 : Int32) ≤ x3
    · refine D1.t hc65 ?_
      replace h := h.1 hc65
      exact D1.p h
    refine D1.f hc65 ?_
    replace h := h.2 hc65
    refine D1.a h.1 ?_
    replace h := h.2
    refine D1.a h.1 ?_
    replace h := h.2
    exact ih _ _ _ _ h
set_option maxHeartbeats 1000000 in
theorem dt_wp_Mo_copyReport (S : GS) (p0 : Int32) (p1 : Int32) (post : GS → Prop) (h : wp_Mo_copyReport S p0 p1 post) : D1 post (fun P => wp_Mo_copyReport S p0 p1 P) := by
  unfold wp_Mo_copyReport at h ⊢
  obtain ⟨q2, h⟩ := h
  refine D1.e q2 ?_
  exact dt_L_Mo_copyReport_2 _ _ _ _ _ _ h
set_option maxHeartbeats 1000000 in
theorem dt_J_Mo_tell_72 (post : GS → Prop) (x1 : Int32) (x2 : Int32) (S : GS) (h : J_Mo_tell_72 post x1 x2 S) : D1 post (fun P => J_Mo_tell_72 P x1 x2 S) := by
  unfold J_Mo_tell_72 at h ⊢
  by_cases hc66 : x1 = (0 : Int32)
  · refine D1.t hc66 ?_
    replace h := h.1 hc66
    exact D1.p h
  refine D1.f hc66 ?_
  replace h := h.2 hc66
  refine D1.c1 (dt_wp_Mo_copyReport _ _ _ _ h) (fun S83 h => ?_)
  refine D1.c1 (dt_wp_Mo_copyReport _ _ _ _ h) (fun S91 h => ?_)
  exact D1.p h
set_option maxHeartbeats 1000000 in
theorem dt_J_Mo_tell_39 (post : GS → Prop) (k8 : (GS → Prop) → Int32 → Int32 → GS → Prop) (hk8 : ∀ (z0 : Int32) (z1 : Int32) (z2 : GS), k8 post z0 z1 z2 → D1 post (fun P => k8 P z0 z1 z2)) (x1 : Int32) (x2 : Int32) (S : GS) (h : J_Mo_tell_39 post (k8 post) x1 x2 S) : D1 post (fun P => J_Mo_tell_39 P (k8 P) x1 x2 S) := by
  unfold J_Mo_tell_39 at h ⊢
  exact hk8 _ _ _ h
set_option maxHeartbeats 1000000 in
theorem dt_L_Mo_tell_8 (post : GS → Prop) : ∀ (n : Nat) (x1 : Int32) (x2 : Int32) (S : GS), L_Mo_tell_8 post n x1 x2 S → D1 post (fun P => L_Mo_tell_8 P n x1 x2 S) := by
  intro n
  induction n with
  | zero => intro x1 x2 S h; exact False.elim h
  | succ n8 ih =>
    intro x1 x2 S h
    simp only [L_Mo_tell_8] at h ⊢
    by_cases hc67 : (7 : Int32) ≤ x2
    · refine D1.t hc67 ?_
      replace h := h.1 hc67
      by_cases hc68 : x1 = (0 : Int32)
      · refine D1.t hc68 ?_
        replace h := h.1 hc68
        exact dt_J_Mo_tell_72 _ _ _ _ h
      refine D1.f hc68 ?_
      replace h := h.2 hc68
      by_cases hc69 : (S.1 5 0) = (8 : Int32)
      · refine D1.t hc69 ?_
        replace h := h.1 hc69
        exact D1.p h
      refine D1.f hc69 ?_
      replace h := h.2 hc69
      exact dt_J_Mo_tell_72 _ _ _ _ h
    refine D1.f hc67 ?_
    replace h := h.2 hc67
    by_cases hc70 : x1 = (0 : Int32)
    · refine D1.t hc70 ?_
      replace h := h.1 hc70
      refine D1.a h.1 ?_
      replace h := h.2
      refine D1.a h.1 ?_
      replace h := h.2
      by_cases hc71 : ((S.1 29) ((70 : Int32) + x2).toNatClampNeg) = ((S.1 29) ((56 : Int32) + x2).toNatClampNeg)
      · refine D1.t hc71 ?_
        replace h := h.1 hc71
        exact ih _ _ _ h
      refine D1.f hc71 ?_
      replace h := h.2 hc71
      exact dt_J_Mo_tell_39 _ (fun P z0 z1 z2 => L_Mo_tell_8 P n8 z0 z1 z2) (fun z0 z1 z2 h => ih z0 z1 z2 h) _ _ _ h
    refine D1.f hc70 ?_
    replace h := h.2 hc70
    exact dt_J_Mo_tell_39 _ (fun P z0 z1 z2 => L_Mo_tell_8 P n8 z0 z1 z2) (fun z0 z1 z2 h => ih z0 z1 z2 h) _ _ _ h
set_option maxHeartbeats 1000000 in
theorem dt_wp_Mo_tell (S : GS) (post : GS → Prop) (h : wp_Mo_tell S post) : D1 post (fun P => wp_Mo_tell S P) := by
  unfold wp_Mo_tell at h ⊢
  refine D1.c1 (dt_wp_Mo_makeReport _ _ h) (fun S1 h => ?_)
  obtain ⟨q8, h⟩ := h
  refine D1.e q8 ?_
  exact dt_L_Mo_tell_8 _ _ _ _ _ h
set_option maxHeartbeats 1000000 in
theorem dt_wp_Mo_change (S : GS) (p0 : Int32) (p1 : Int32) (post : GS → Prop) (h : wp_Mo_change S p0 p1 post) : D1 post (fun P => wp_Mo_change S p0 p1 P) := by
  unfold wp_Mo_change at h ⊢
  refine D1.a h.1 ?_
  replace h := h.2
  refine D1.a h.1 ?_
  replace h := h.2
  refine D1.c1 (dt_wp_Mo_tell _ _ h) (fun S15 h => ?_)
  exact D1.p h
set_option maxHeartbeats 1000000 in
theorem dt_wp_Mo_touch (S : GS) (p0 : Int32) (post : GS → Prop) (h : wp_Mo_touch S p0 post) : D1 post (fun P => wp_Mo_touch S p0 P) := by
  unfold wp_Mo_touch at h ⊢
  refine D1.c1 (dt_wp_Mo_change _ _ _ _ h) (fun S3 h => ?_)
  refine D1.c1 (dt_wp_Mo_change _ _ _ _ h) (fun S9 h => ?_)
  exact D1.p h
set_option maxHeartbeats 1000000 in
theorem dt_L_Mo_drop_12 (post : GS → Prop) : ∀ (n : Nat) (x1 : Int32) (x2 : Int32) (S : GS), L_Mo_drop_12 post n x1 x2 S → D1 post (fun P => L_Mo_drop_12 P n x1 x2 S) := by
  intro n
  induction n with
  | zero => intro x1 x2 S h; exact False.elim h
  | succ n12 ih =>
    intro x1 x2 S h
    simp only [L_Mo_drop_12] at h ⊢
    by_cases hc72 : (S.1 2 0) ≤ x2
    · refine D1.t hc72 ?_
      replace h := h.1 hc72
      exact D1.p h
    refine D1.f hc72 ?_
    replace h := h.2 hc72
    refine D1.a h.1 ?_
    replace h := h.2
    refine D1.a h.1 ?_
    replace h := h.2
    refine D1.a h.1 ?_
    replace h := h.2
    refine D1.a h.1 ?_
    replace h := h.2
    exact ih _ _ _ h
set_option maxHeartbeats 1000000 in
theorem dt_wp_Mo_drop (S : GS) (p0 : Int32) (post : GS → Prop) (h : wp_Mo_drop S p0 post) : D1 post (fun P => wp_Mo_drop S p0 P) := by
  unfold wp_Mo_drop at h ⊢
  obtain ⟨q12, h⟩ := h
  refine D1.e q12 ?_
  exact dt_L_Mo_drop_12 _ _ _ _ _ h
set_option maxHeartbeats 1000000 in
theorem dt_J_Mo_takeRelease_101 (post : GS → Prop) (x1 : Int32) (x2 : Int32) (x3 : Int32) (x4 : Int32) (S : GS) (h : J_Mo_takeRelease_101 post x1 x2 x3 x4 S) : D1 post (fun P => J_Mo_takeRelease_101 P x1 x2 x3 x4 S) := by
  unfold J_Mo_takeRelease_101 at h ⊢
  refine D1.c1 (dt_wp_Mo_change _ _ _ _ h) (fun S104 h => ?_)
  exact D1.p h
set_option maxHeartbeats 1000000 in
theorem dt_J_Mo_takeRelease_91 (post : GS → Prop) (x1 : Int32) (x2 : Int32) (x3 : Int32) (x4 : Int32) (S : GS) (h : J_Mo_takeRelease_91 post x1 x2 x3 x4 S) : D1 post (fun P => J_Mo_takeRelease_91 P x1 x2 x3 x4 S) := by
  unfold J_Mo_takeRelease_91 at h ⊢
  by_cases hc73 : x2 = (1 : Int32)
  · refine D1.t hc73 ?_
    replace h := h.1 hc73
    exact dt_J_Mo_takeRelease_101 _ _ _ _ _ _ h
  refine D1.f hc73 ?_
  replace h := h.2 hc73
  by_cases hc74 : x2 = (3 : Int32)
  · refine D1.t hc74 ?_
    replace h := h.1 hc74
    exact dt_J_Mo_takeRelease_101 _ _ _ _ _ _ h
  refine D1.f hc74 ?_
  replace h := h.2 hc74
  exact D1.p h
set_option maxHeartbeats 1000000 in
theorem dt_J_Mo_takeRelease_77 (post : GS → Prop) (k37 : (GS → Prop) → Int32 → Int32 → Int32 → Int32 → Int32 → GS → Prop) (hk37 : ∀ (z0 : Int32) (z1 : Int32) (z2 : Int32) (z3 : Int32) (z4 : Int32) (z5 : GS), k37 post z0 z1 z2 z3 z4 z5 → D1 post (fun P => k37 P z0 z1 z2 z3 z4 z5)) (x1 : Int32) (x2 : Int32) (x3 : Int32) (x4 : Int32) (x5 : Int32) (y1 : Int32) (S : GS) (h : J_Mo_takeRelease_77 post (k37 post) x1 x2 x3 x4 x5 y1 S) : D1 post (fun P => J_Mo_takeRelease_77 P (k37 P) x1 x2 x3 x4 x5 y1 S) := by
  unfold J_Mo_takeRelease_77 at h ⊢
  refine D1.a h.1 ?_
  replace h := h.2
  refine D1.a h.1 ?_
  replace h := h.2
  exact hk37 _ _ _ _ _ _ h
set_option maxHeartbeats 1000000 in
theorem dt_L_Mo_takeRelease_37 (post : GS → Prop) : ∀ (n : Nat) (x1 : Int32) (x2 : Int32) (x3 : Int32) (x4 : Int32) (x5 : Int32) (S : GS), L_Mo_takeRelease_37 post n x1 x2 x3 x4 x5 S → D1 post (fun P => L_Mo_takeRelease_37 P n x1 x2 x3 x4 x5 S) := by
  intro n
  induction n with
  | zero => intro x1 x2 x3 x4 x5 S h; exact False.elim h
  | succ n37 ih =>
    intro x1 x2 x3 x4 x5 S h
    simp only [L_Mo_takeRelease_37] at h ⊢
    by_cases hc75 : (24 : Int32) ≤ x5
    · refine D1.t hc75 ?_
      replace h := h.1 hc75
      exact dt_J_Mo_takeRelease_91 _ _ _ _ _ _ h
    refine D1.f hc75 ?_
    replace h := h.2 hc75
    refine D1.a h.1 ?_
    replace h := h.2
    by_cases hc76 : ((S.1 25) x5.toNatClampNeg) = (3 : Int32)
    · refine D1.t hc76 ?_
      replace h := h.1 hc76
      refine D1.a h.1 ?_
      replace h := h.2
      by_cases hc77 : ((S.1 27) x5.toNatClampNeg) = x4
      · refine D1.t hc77 ?_
        replace h := h.1 hc77
        refine D1.a h.1 ?_
        replace h := h.2
        exact ih _ _ _ _ _ _ h
      refine D1.f hc77 ?_
      replace h := h.2 hc77
      exact dt_J_Mo_takeRelease_77 _ (fun P z0 z1 z2 z3 z4 z5 => L_Mo_takeRelease_37 P n37 z0 z1 z2 z3 z4 z5) (fun z0 z1 z2 z3 z4 z5 h => ih z0 z1 z2 z3 z4 z5 h) _ _ _ _ _ _ _ h
    refine D1.f hc76 ?_
    replace h := h.2 hc76
    exact dt_J_Mo_takeRelease_77 _ (fun P z0 z1 z2 z3 z4 z5 => L_Mo_takeRelease_37 P n37 z0 z1 z2 z3 z4 z5) (fun z0 z1 z2 z3 z4 z5 h => ih z0 z1 z2 z3 z4 z5 h) _ _ _ _ _ _ _ h
set_option maxHeartbeats 1000000 in
theorem dt_wp_Mo_takeRelease (S : GS) (p0 : Int32) (post : GS → Prop) (h : wp_Mo_takeRelease S p0 post) : D1 post (fun P => wp_Mo_takeRelease S p0 P) := by
  unfold wp_Mo_takeRelease at h ⊢
  refine D1.a h.1 ?_
  replace h := h.2
  refine D1.a h.1 ?_
  replace h := h.2
  refine D1.a h.1 ?_
  replace h := h.2
  refine D1.a h.1 ?_
  replace h := h.2
  by_cases hc78 : ((S.1 25) p0.toNatClampNeg) = (3 : Int32)
  · refine D1.t hc78 ?_
    replace h := h.1 hc78
    obtain ⟨q37, h⟩ := h
    refine D1.e q37 ?_
    exact dt_L_Mo_takeRelease_37 _ _ _ _ _ _ _ _ h
  refine D1.f hc78 ?_
  replace h := h.2 hc78
  exact dt_J_Mo_takeRelease_91 _ _ _ _ _ _ h
set_option maxHeartbeats 1000000 in
theorem dt_L_Mo_rowLength_2 (S : GS) (post : Int32 → Prop) : ∀ (n : Nat) (x1 : Int32), L_Mo_rowLength_2 S post n x1 → D1 post (fun P => L_Mo_rowLength_2 S P n x1) := by
  intro n
  induction n with
  | zero => intro x1 h; exact False.elim h
  | succ n2 ih =>
    intro x1 h
    simp only [L_Mo_rowLength_2] at h ⊢
    by_cases hc79 : (S.1 2 0) ≤ x1
    · refine D1.t hc79 ?_
      replace h := h.1 hc79
      exact D1.p h
    refine D1.f hc79 ?_
    replace h := h.2 hc79
    refine D1.a h.1 ?_
    replace h := h.2
    by_cases hc80 : (((S.1 14) x1.toNatClampNeg) - ((S.1 14) x1.toNatClampNeg) / (2 : Int32) * (2 : Int32)) = (1 : Int32)
    · refine D1.t hc80 ?_
      replace h := h.1 hc80
      refine D1.a h.1 ?_
      replace h := h.2
      refine D1.a h.1 ?_
      replace h := h.2
      by_cases hc81 : (((S.1 15) (0 : Int32).toNatClampNeg) + (9 : Int32)) < ((S.1 15) x1.toNatClampNeg)
      · refine D1.t hc81 ?_
        replace h := h.1 hc81
        exact D1.p h
      refine D1.f hc81 ?_
      replace h := h.2 hc81
      exact ih _ h
    refine D1.f hc80 ?_
    replace h := h.2 hc80
    exact D1.p h
set_option maxHeartbeats 1000000 in
theorem dt_wp_Mo_rowLength (S : GS) (post : Int32 → Prop) (h : wp_Mo_rowLength S post) : D1 post (fun P => wp_Mo_rowLength S P) := by
  unfold wp_Mo_rowLength at h ⊢
  obtain ⟨q2, h⟩ := h
  refine D1.e q2 ?_
  exact dt_L_Mo_rowLength_2 _ _ _ _ h
set_option maxHeartbeats 1000000 in
theorem dt_L_Mo_keysOf_4 (S : GS) (post : Int32 → Prop) : ∀ (n : Nat) (x1 : Int32) (x2 : Int32) (x3 : Int32), L_Mo_keysOf_4 S post n x1 x2 x3 → D1 post (fun P => L_Mo_keysOf_4 S P n x1 x2 x3) := by
  intro n
  induction n with
  | zero => intro x1 x2 x3 h; exact False.elim h
  | succ n4 ih =>
    intro x1 x2 x3 h
    simp only [L_Mo_keysOf_4] at h ⊢
    by_cases hc82 : x1 ≤ x3
    · refine D1.t hc82 ?_
      replace h := h.1 hc82
      exact D1.p h
    refine D1.f hc82 ?_
    replace h := h.2 hc82
    refine D1.a h.1 ?_
    replace h := h.2
    exact ih _ _ _ h
set_option maxHeartbeats 1000000 in
theorem dt_wp_Mo_keysOf (S : GS) (p0 : Int32) (post : Int32 → Prop) (h : wp_Mo_keysOf S p0 post) : D1 post (fun P => wp_Mo_keysOf S p0 P) := by
  unfold wp_Mo_keysOf at h ⊢
  obtain ⟨q4, h⟩ := h
  refine D1.e q4 ?_
  exact dt_L_Mo_keysOf_4 _ _ _ _ _ _ h
set_option maxHeartbeats 1000000 in
theorem dt_J_Mo_waitsForChord_45 (S : GS) (post : Int32 → Prop) (k11 : (Int32 → Prop) → Int32 → Int32 → Int32 → Int32 → Prop) (hk11 : ∀ (z0 : Int32) (z1 : Int32) (z2 : Int32) (z3 : Int32), k11 post z0 z1 z2 z3 → D1 post (fun P => k11 P z0 z1 z2 z3)) (x1 : Int32) (x2 : Int32) (x3 : Int32) (x4 : Int32) (h : J_Mo_waitsForChord_45 S post (k11 post) x1 x2 x3 x4) : D1 post (fun P => J_Mo_waitsForChord_45 S P (k11 P) x1 x2 x3 x4) := by
  unfold J_Mo_waitsForChord_45 at h ⊢
  exact hk11 _ _ _ _ h
set_option maxHeartbeats 1000000 in
theorem dt_L_Mo_waitsForChord_11 (S : GS) (post : Int32 → Prop) : ∀ (n : Nat) (x1 : Int32) (x2 : Int32) (x3 : Int32) (x4 : Int32), L_Mo_waitsForChord_11 S post n x1 x2 x3 x4 → D1 post (fun P => L_Mo_waitsForChord_11 S P n x1 x2 x3 x4) := by
  intro n
  induction n with
  | zero => intro x1 x2 x3 x4 h; exact False.elim h
  | succ n11 ih =>
    intro x1 x2 x3 x4 h
    simp only [L_Mo_waitsForChord_11] at h ⊢
    by_cases hc83 : (4 : Int32) ≤ x4
    · refine D1.t hc83 ?_
      replace h := h.1 hc83
      by_cases hc84 : x3 = (0 : Int32)
      · refine D1.t hc84 ?_
        replace h := h.1 hc84
        exact D1.p h
      refine D1.f hc84 ?_
      replace h := h.2 hc84
      by_cases hc85 : x1 = (S.1 2 0)
      · refine D1.t hc85 ?_
        replace h := h.1 hc85
        by_cases hc86 : (8 : Int32) < (S.1 2 0)
        · refine D1.t hc86 ?_
          replace h := h.1 hc86
          exact D1.p h
        refine D1.f hc86 ?_
        replace h := h.2 hc86
        refine D1.a h.1 ?_
        replace h := h.2
        by_cases hc87 : (((S.1 15) (0 : Int32).toNatClampNeg) + (9 : Int32)) ≤ (S.1 1 0)
        · refine D1.t hc87 ?_
          replace h := h.1 hc87
          exact D1.p h
        refine D1.f hc87 ?_
        replace h := h.2 hc87
        exact D1.p h
      refine D1.f hc85 ?_
      replace h := h.2 hc85
      exact D1.p h
    refine D1.f hc83 ?_
    replace h := h.2 hc83
    by_cases hc88 : x3 = (0 : Int32)
    · refine D1.t hc88 ?_
      replace h := h.1 hc88
      refine D1.a h.1 ?_
      replace h := h.2
      by_cases hc89 : (((S.1 21) x4.toNatClampNeg) &&& x2) = x2
      · refine D1.t hc89 ?_
        replace h := h.1 hc89
        refine D1.a h.1 ?_
        replace h := h.2
        by_cases hc90 : ((S.1 21) x4.toNatClampNeg) = x2
        · refine D1.t hc90 ?_
          replace h := h.1 hc90
          exact ih _ _ _ _ h
        refine D1.f hc90 ?_
        replace h := h.2 hc90
        exact dt_J_Mo_waitsForChord_45 _ _ (fun P z0 z1 z2 z3 => L_Mo_waitsForChord_11 S P n11 z0 z1 z2 z3) (fun z0 z1 z2 z3 h => ih z0 z1 z2 z3 h) _ _ _ _ h
      refine D1.f hc89 ?_
      replace h := h.2 hc89
      exact ih _ _ _ _ h
    refine D1.f hc88 ?_
    replace h := h.2 hc88
    exact dt_J_Mo_waitsForChord_45 _ _ (fun P z0 z1 z2 z3 => L_Mo_waitsForChord_11 S P n11 z0 z1 z2 z3) (fun z0 z1 z2 z3 h => ih z0 z1 z2 z3 h) _ _ _ _ h
set_option maxHeartbeats 1000000 in
theorem dt_wp_Mo_waitsForChord (S : GS) (p0 : Int32) (post : Int32 → Prop) (h : wp_Mo_waitsForChord S p0 post) : D1 post (fun P => wp_Mo_waitsForChord S p0 P) := by
  unfold wp_Mo_waitsForChord at h ⊢
  refine D1.c1 (dt_wp_Mo_keysOf _ _ _ h) (fun r2 h => ?_)
  obtain ⟨q11, h⟩ := h
  refine D1.e q11 ?_
  exact dt_L_Mo_waitsForChord_11 _ _ _ _ _ _ _ h
set_option maxHeartbeats 1000000 in
theorem dt_L_Mo_bitsOf_4 (post : Int32 → Prop) : ∀ (n : Nat) (x0 : Int32) (x1 : Int32) (x2 : Int32), L_Mo_bitsOf_4 post n x0 x1 x2 → D1 post (fun P => L_Mo_bitsOf_4 P n x0 x1 x2) := by
  intro n
  induction n with
  | zero => intro x0 x1 x2 h; exact False.elim h
  | succ n4 ih =>
    intro x0 x1 x2 h
    simp only [L_Mo_bitsOf_4] at h ⊢
    by_cases hc91 : (24 : Int32) ≤ x2
    · refine D1.t hc91 ?_
      replace h := h.1 hc91
      exact D1.p h
    refine D1.f hc91 ?_
    replace h := h.2 hc91
    exact ih _ _ _ h
set_option maxHeartbeats 1000000 in
theorem dt_wp_Mo_bitsOf (p0 : Int32) (post : Int32 → Prop) (h : wp_Mo_bitsOf p0 post) : D1 post (fun P => wp_Mo_bitsOf p0 P) := by
  unfold wp_Mo_bitsOf at h ⊢
  obtain ⟨q4, h⟩ := h
  refine D1.e q4 ?_
  exact dt_L_Mo_bitsOf_4 _ _ _ _ _ h
set_option maxHeartbeats 1000000 in
theorem dt_J_Mo_chordOf_75 (S : GS) (post : Int32 → Prop) (k4 : (Int32 → Prop) → Int32 → Int32 → Int32 → Prop) (hk4 : ∀ (z0 : Int32) (z1 : Int32) (z2 : Int32), k4 post z0 z1 z2 → D1 post (fun P => k4 P z0 z1 z2)) (x1 : Int32) (x2 : Int32) (x3 : Int32) (x4 : Int32) (x5 : Int32) (h : J_Mo_chordOf_75 S post (k4 post) x1 x2 x3 x4 x5) : D1 post (fun P => J_Mo_chordOf_75 S P (k4 P) x1 x2 x3 x4 x5) := by
  unfold J_Mo_chordOf_75 at h ⊢
  exact hk4 _ _ _ h
set_option maxHeartbeats 1000000 in
theorem dt_J_Mo_chordOf_50 (S : GS) (post : Int32 → Prop) (k4 : (Int32 → Prop) → Int32 → Int32 → Int32 → Prop) (hk4 : ∀ (z0 : Int32) (z1 : Int32) (z2 : Int32), k4 post z0 z1 z2 → D1 post (fun P => k4 P z0 z1 z2)) (x1 : Int32) (x2 : Int32) (x3 : Int32) (x4 : Int32) (y0 : Int32) (h : J_Mo_chordOf_50 S post (k4 post) x1 x2 x3 x4 y0) : D1 post (fun P => J_Mo_chordOf_50 S P (k4 P) x1 x2 x3 x4 y0) := by
  unfold J_Mo_chordOf_50 at h ⊢
  by_cases hc92 : y0 = (0 : Int32)
  · refine D1.t hc92 ?_
    replace h := h.1 hc92
    exact hk4 _ _ _ h
  refine D1.f hc92 ?_
  replace h := h.2 hc92
  by_cases hc93 : x2 < (0 : Int32)
  · refine D1.t hc93 ?_
    replace h := h.1 hc93
    exact dt_J_Mo_chordOf_75 _ _ k4 hk4 _ _ _ _ _ h
  refine D1.f hc93 ?_
  replace h := h.2 hc93
  refine D1.a h.1 ?_
  replace h := h.2
  refine D1.c1 (dt_wp_Mo_bitsOf _ _ h) (fun r69 h => ?_)
  by_cases hc94 : x4 < r69
  · refine D1.t hc94 ?_
    replace h := h.1 hc94
    exact hk4 _ _ _ h
  refine D1.f hc94 ?_
  replace h := h.2 hc94
  exact dt_J_Mo_chordOf_75 _ _ k4 hk4 _ _ _ _ _ h
set_option maxHeartbeats 1000000 in
theorem dt_J_Mo_chordOf_49 (S : GS) (post : Int32 → Prop) (k4 : (Int32 → Prop) → Int32 → Int32 → Int32 → Prop) (hk4 : ∀ (z0 : Int32) (z1 : Int32) (z2 : Int32), k4 post z0 z1 z2 → D1 post (fun P => k4 P z0 z1 z2)) (x1 : Int32) (x2 : Int32) (x3 : Int32) (x4 : Int32) (h : J_Mo_chordOf_49 S post (k4 post) x1 x2 x3 x4) : D1 post (fun P => J_Mo_chordOf_49 S P (k4 P) x1 x2 x3 x4) := by
  unfold J_Mo_chordOf_49 at h ⊢
  exact dt_J_Mo_chordOf_50 _ _ k4 hk4 _ _ _ _ _ h
set_option maxHeartbeats 1000000 in
theorem dt_L_Mo_chordOf_4 (S : GS) (post : Int32 → Prop) : ∀ (n : Nat) (x1 : Int32) (x2 : Int32) (x3 : Int32), L_Mo_chordOf_4 S post n x1 x2 x3 → D1 post (fun P => L_Mo_chordOf_4 S P n x1 x2 x3) := by
  intro n
  induction n with
  | zero => intro x1 x2 x3 h; exact False.elim h
  | succ n4 ih =>
    intro x1 x2 x3 h
    simp only [L_Mo_chordOf_4] at h ⊢
    by_cases hc95 : x3 < (0 : Int32)
    · refine D1.t hc95 ?_
      replace h := h.1 hc95
      exact D1.p h
    refine D1.f hc95 ?_
    replace h := h.2 hc95
    refine D1.a h.1 ?_
    replace h := h.2
    refine D1.c1 (dt_wp_Mo_bitsOf _ _ h) (fun r14 h => ?_)
    by_cases hc96 : r14 ≤ (0 : Int32)
    · refine D1.t hc96 ?_
      replace h := h.1 hc96
      exact dt_J_Mo_chordOf_49 _ _ (fun P z0 z1 z2 => L_Mo_chordOf_4 S P n4 z0 z1 z2) (fun z0 z1 z2 h => ih z0 z1 z2 h) _ _ _ _ h
    refine D1.f hc96 ?_
    replace h := h.2 hc96
    by_cases hc97 : x1 < r14
    · refine D1.t hc97 ?_
      replace h := h.1 hc97
      exact dt_J_Mo_chordOf_49 _ _ (fun P z0 z1 z2 => L_Mo_chordOf_4 S P n4 z0 z1 z2) (fun z0 z1 z2 h => ih z0 z1 z2 h) _ _ _ _ h
    refine D1.f hc97 ?_
    replace h := h.2 hc97
    refine D1.c1 (dt_wp_Mo_keysOf _ _ _ h) (fun r33 h => ?_)
    refine D1.a h.1 ?_
    replace h := h.2
    by_cases hc98 : r33 = ((S.1 21) x3.toNatClampNeg)
    · refine D1.t hc98 ?_
      replace h := h.1 hc98
      exact dt_J_Mo_chordOf_50 _ _ (fun P z0 z1 z2 => L_Mo_chordOf_4 S P n4 z0 z1 z2) (fun z0 z1 z2 h => ih z0 z1 z2 h) _ _ _ _ _ h
    refine D1.f hc98 ?_
    replace h := h.2 hc98
    exact dt_J_Mo_chordOf_49 _ _ (fun P z0 z1 z2 => L_Mo_chordOf_4 S P n4 z0 z1 z2) (fun z0 z1 z2 h => ih z0 z1 z2 h) _ _ _ _ h
set_option maxHeartbeats 1000000 in
theorem dt_wp_Mo_chordOf (S : GS) (p0 : Int32) (post : Int32 → Prop) (h : wp_Mo_chordOf S p0 post) : D1 post (fun P => wp_Mo_chordOf S p0 P) := by
  unfold wp_Mo_chordOf at h ⊢
  obtain ⟨q4, h⟩ := h
  refine D1.e q4 ?_
  exact dt_L_Mo_chordOf_4 _ _ _ _ _ _ h
set_option maxHeartbeats 1000000 in
theorem dt_L_Mo_disarm_2 (post : GS → Prop) : ∀ (n : Nat) (x1 : Int32) (S : GS), L_Mo_disarm_2 post n x1 S → D1 post (fun P => L_Mo_disarm_2 P n x1 S) := by
  intro n
  induction n with
  | zero => intro x1 S h; exact False.elim h
  | succ n2 ih =>
    intro x1 S h
    simp only [L_Mo_disarm_2] at h ⊢
    by_cases hc99 : (4 : Int32) ≤ x1
    · refine D1.t hc99 ?_
      replace h := h.1 hc99
      exact D1.p h
    refine D1.f hc99 ?_
    replace h := h.2 hc99
    refine D1.a h.1 ?_
    replace h := h.2
    exact ih _ _ h
set_option maxHeartbeats 1000000 in
theorem dt_wp_Mo_disarm (S : GS) (post : GS → Prop) (h : wp_Mo_disarm S post) : D1 post (fun P => wp_Mo_disarm S P) := by
  unfold wp_Mo_disarm at h ⊢
  obtain ⟨q2, h⟩ := h
  refine D1.e q2 ?_
  exact dt_L_Mo_disarm_2 _ _ _ _ h
set_option maxHeartbeats 1000000 in
theorem dt_L_Mo_takeChord_22 (post : GS → Prop) : ∀ (n : Nat) (x1 : Int32) (x2 : Int32) (x3 : Int32) (S : GS), L_Mo_takeChord_22 post n x1 x2 x3 S → D1 post (fun P => L_Mo_takeChord_22 P n x1 x2 x3 S) := by
  intro n
  induction n with
  | zero => intro x1 x2 x3 S h; exact False.elim h
  | succ n22 ih =>
    intro x1 x2 x3 S h
    simp only [L_Mo_takeChord_22] at h ⊢
    by_cases hc100 : x2 ≤ x3
    · refine D1.t hc100 ?_
      replace h := h.1 hc100
      refine D1.a h.1 ?_
      replace h := h.2
      refine D1.c1 (dt_wp_Mo_change _ _ _ _ h) (fun S83 h => ?_)
      refine D1.c1 (dt_wp_Mo_drop _ _ _ h) (fun S88 h => ?_)
      refine D1.c1 (dt_wp_Mo_disarm _ _ h) (fun S92 h => ?_)
      exact D1.p h
    refine D1.f hc100 ?_
    replace h := h.2 hc100
    refine D1.a h.1 ?_
    replace h := h.2
    refine D1.a h.1 ?_
    replace h := h.2
    refine D1.a h.1 ?_
    replace h := h.2
    refine D1.a h.1 ?_
    replace h := h.2
    refine D1.a h.1 ?_
    replace h := h.2
    exact ih _ _ _ _ h
set_option maxHeartbeats 1000000 in
theorem dt_wp_Mo_takeChord (S : GS) (p0 : Int32) (post : GS → Prop) (h : wp_Mo_takeChord S p0 post) : D1 post (fun P => wp_Mo_takeChord S p0 P) := by
  unfold wp_Mo_takeChord at h ⊢
  refine D1.a h.1 ?_
  replace h := h.2
  refine D1.c1 (dt_wp_Mo_bitsOf _ _ h) (fun r6 h => ?_)
  obtain ⟨q22, h⟩ := h
  refine D1.e q22 ?_
  exact dt_L_Mo_takeChord_22 _ _ _ _ _ _ h
set_option maxHeartbeats 1000000 in
theorem dt_L_Mo_tapOf_13 (S : GS) (post : Int32 → Prop) : ∀ (n : Nat) (x1 : Int32) (x2 : Int32) (x3 : Int32), L_Mo_tapOf_13 S post n x1 x2 x3 → D1 post (fun P => L_Mo_tapOf_13 S P n x1 x2 x3) := by
  intro n
  induction n with
  | zero => intro x1 x2 x3 h; exact False.elim h
  | succ n13 ih =>
    intro x1 x2 x3 h
    simp only [L_Mo_tapOf_13] at h ⊢
    by_cases hc101 : (S.1 2 0) ≤ x3
    · refine D1.t hc101 ?_
      replace h := h.1 hc101
      refine D1.a h.1 ?_
      replace h := h.2
      by_cases hc102 : (((S.1 15) (0 : Int32).toNatClampNeg) + (20 : Int32)) ≤ (S.1 1 0)
      · refine D1.t hc102 ?_
        replace h := h.1 hc102
        exact D1.p h
      refine D1.f hc102 ?_
      replace h := h.2 hc102
      by_cases hc103 : (S.1 2 0) ≤ (8 : Int32)
      · refine D1.t hc103 ?_
        replace h := h.1 hc103
        exact D1.p h
      refine D1.f hc103 ?_
      replace h := h.2 hc103
      exact D1.p h
    refine D1.f hc101 ?_
    replace h := h.2 hc101
    refine D1.a h.1 ?_
    replace h := h.2
    refine D1.a h.1 ?_
    replace h := h.2
    by_cases hc104 : (((S.1 14) x3.toNatClampNeg) - ((S.1 14) x3.toNatClampNeg) / (2 : Int32) * (2 : Int32)) = (1 : Int32)
    · refine D1.t hc104 ?_
      replace h := h.1 hc104
      exact ih _ _ _ h
    refine D1.f hc104 ?_
    replace h := h.2 hc104
    by_cases hc105 : (((S.1 14) x3.toNatClampNeg) / (2 : Int32)) = x1
    · refine D1.t hc105 ?_
      replace h := h.1 hc105
      exact D1.p h
    refine D1.f hc105 ?_
    replace h := h.2 hc105
    by_cases hc106 : ((x2 >>> ((((S.1 14) x3.toNatClampNeg) / (2 : Int32)) &&& 31)) &&& (1 : Int32)) = (1 : Int32)
    · refine D1.t hc106 ?_
      replace h := h.1 hc106
      exact D1.p h
    refine D1.f hc106 ?_
    replace h := h.2 hc106
    exact ih _ _ _ h
set_option maxHeartbeats 1000000 in
theorem dt_wp_Mo_tapOf (S : GS) (post : Int32 → Prop) (h : wp_Mo_tapOf S post) : D1 post (fun P => wp_Mo_tapOf S P) := by
  unfold wp_Mo_tapOf at h ⊢
  refine D1.a h.1 ?_
  replace h := h.2
  obtain ⟨q13, h⟩ := h
  refine D1.e q13 ?_
  exact dt_L_Mo_tapOf_13 _ _ _ _ _ _ h
set_option maxHeartbeats 1000000 in
theorem dt_wp_Mo_begin (S : GS) (p0 : Int32) (p1 : Int32) (p2 : Int32) (post : GS → Prop) (h : wp_Mo_begin S p0 p1 p2 post) : D1 post (fun P => wp_Mo_begin S p0 p1 p2 P) := by
  unfold wp_Mo_begin at h ⊢
  refine D1.a h.1 ?_
  replace h := h.2
  refine D1.a h.1 ?_
  replace h := h.2
  exact D1.p h
set_option maxHeartbeats 1000000 in
theorem dt_L_Mo_play_2 (post : GS → Prop) : ∀ (n : Nat) (x1 : Int32) (x2 : Int32) (S : GS), L_Mo_play_2 post n x1 x2 S → D1 post (fun P => L_Mo_play_2 P n x1 x2 S) := by
  intro n
  induction n with
  | zero => intro x1 x2 S h; exact False.elim h
  | succ n2 ih =>
    intro x1 x2 S h
    simp only [L_Mo_play_2] at h ⊢
    by_cases hc107 : (4 : Int32) ≤ x2
    · refine D1.t hc107 ?_
      replace h := h.1 hc107
      exact D1.p h
    refine D1.f hc107 ?_
    replace h := h.2 hc107
    refine D1.a h.1 ?_
    replace h := h.2
    by_cases hc108 : ((S.1 20) (((4 : Int32) * x1) + x2).toNatClampNeg) ≤ (0 : Int32)
    · refine D1.t hc108 ?_
      replace h := h.1 hc108
      exact ih _ _ _ h
    refine D1.f hc108 ?_
    replace h := h.2 hc108
    refine D1.a h.1 ?_
    replace h := h.2
    refine D1.c1 (dt_wp_Mo_touch _ _ _ h) (fun S31 h => ?_)
    exact ih _ _ _ h
set_option maxHeartbeats 1000000 in
theorem dt_wp_Mo_play (S : GS) (p0 : Int32) (post : GS → Prop) (h : wp_Mo_play S p0 post) : D1 post (fun P => wp_Mo_play S p0 P) := by
  unfold wp_Mo_play at h ⊢
  obtain ⟨q2, h⟩ := h
  refine D1.e q2 ?_
  exact dt_L_Mo_play_2 _ _ _ _ _ h
set_option maxHeartbeats 1000000 in
theorem dt_J_Mo_act_196 (post : Int32 → GS → Prop) (x1 : Int32) (x2 : Int32) (x3 : Int32) (x4 : Int32) (x5 : Int32) (S : GS) (h : J_Mo_act_196 post x1 x2 x3 x4 x5 S) : D2 post (fun P => J_Mo_act_196 P x1 x2 x3 x4 x5 S) := by
  unfold J_Mo_act_196 at h ⊢
  by_cases hc109 : x3 = (4 : Int32)
  · refine D2.t hc109 ?_
    replace h := h.1 hc109
    exact D2.p h
  refine D2.f hc109 ?_
  replace h := h.2 hc109
  refine D2.c1 (dt_wp_Mo_disarm _ _ h) (fun S202 h => ?_)
  exact D2.p h
set_option maxHeartbeats 1000000 in
theorem dt_J_Mo_act_142 (post : Int32 → GS → Prop) (x1 : Int32) (x2 : Int32) (x3 : Int32) (x4 : Int32) (x5 : Int32) (y1 : Int32) (y2 : Int32) (S : GS) (h : J_Mo_act_142 post x1 x2 x3 x4 x5 y1 y2 S) : D2 post (fun P => J_Mo_act_142 P x1 x2 x3 x4 x5 y1 y2 S) := by
  unfold J_Mo_act_142 at h ⊢
  refine D2.a h.1 ?_
  replace h := h.2
  exact dt_J_Mo_act_196 _ _ _ _ _ _ _ h
set_option maxHeartbeats 1000000 in
theorem dt_J_Mo_act_44 (post : Int32 → GS → Prop) (x1 : Int32) (x2 : Int32) (x3 : Int32) (x4 : Int32) (y0 : Int32) (S : GS) (h : J_Mo_act_44 post x1 x2 x3 x4 y0 S) : D2 post (fun P => J_Mo_act_44 P x1 x2 x3 x4 y0 S) := by
  unfold J_Mo_act_44 at h ⊢
  by_cases hc110 : y0 = (0 : Int32)
  · refine D2.t hc110 ?_
    replace h := h.1 hc110
    exact D2.p h
  refine D2.f hc110 ?_
  replace h := h.2 hc110
  by_cases hc111 : x3 = (1 : Int32)
  · refine D2.t hc111 ?_
    replace h := h.1 hc111
    refine D2.c1 (dt_wp_Mo_begin _ _ _ _ _ h) (fun S97 h => ?_)
    refine D2.c1 (dt_wp_Mo_change _ _ _ _ h) (fun S104 h => ?_)
    exact dt_J_Mo_act_196 _ _ _ _ _ _ _ h
  refine D2.f hc111 ?_
  replace h := h.2 hc111
  by_cases hc112 : x3 = (2 : Int32)
  · refine D2.t hc112 ?_
    replace h := h.1 hc112
    refine D2.c1 (dt_wp_Mo_begin _ _ _ _ _ h) (fun S115 h => ?_)
    exact dt_J_Mo_act_196 _ _ _ _ _ _ _ h
  refine D2.f hc112 ?_
  replace h := h.2 hc112
  by_cases hc113 : x3 = (3 : Int32)
  · refine D2.t hc113 ?_
    replace h := h.1 hc113
    refine D2.a h.1 ?_
    replace h := h.2
    by_cases hc114 : ((S.1 23) x4.toNatClampNeg) = (0 : Int32)
    · refine D2.t hc114 ?_
      replace h := h.1 hc114
      exact dt_J_Mo_act_142 _ _ _ _ _ _ _ _ _ h
    refine D2.f hc114 ?_
    replace h := h.2 hc114
    exact dt_J_Mo_act_142 _ _ _ _ _ _ _ _ _ h
  refine D2.f hc113 ?_
  replace h := h.2 hc113
  by_cases hc115 : x3 = (4 : Int32)
  · refine D2.t hc115 ?_
    replace h := h.1 hc115
    refine D2.a h.1 ?_
    replace h := h.2
    exact dt_J_Mo_act_196 _ _ _ _ _ _ _ h
  refine D2.f hc115 ?_
  replace h := h.2 hc115
  by_cases hc116 : x3 = (5 : Int32)
  · refine D2.t hc116 ?_
    replace h := h.1 hc116
    by_cases hc117 : y0 = (1 : Int32)
    · refine D2.t hc117 ?_
      replace h := h.1 hc117
      refine D2.c1 (dt_wp_Mo_touch _ _ _ h) (fun S175 h => ?_)
      exact dt_J_Mo_act_196 _ _ _ _ _ _ _ h
    refine D2.f hc117 ?_
    replace h := h.2 hc117
    refine D2.a h.1 ?_
    replace h := h.2
    refine D2.c1 (dt_wp_Mo_begin _ _ _ _ _ h) (fun S190 h => ?_)
    exact dt_J_Mo_act_196 _ _ _ _ _ _ _ h
  refine D2.f hc116 ?_
  replace h := h.2 hc116
  by_cases hc118 : x3 = (6 : Int32)
  · refine D2.t hc118 ?_
    replace h := h.1 hc118
    refine D2.c1 (dt_wp_Mo_play _ _ _ h) (fun S160 h => ?_)
    exact dt_J_Mo_act_196 _ _ _ _ _ _ _ h
  refine D2.f hc118 ?_
  replace h := h.2 hc118
  exact dt_J_Mo_act_196 _ _ _ _ _ _ _ h
set_option maxHeartbeats 1000000 in
theorem dt_J_Mo_act_29 (post : Int32 → GS → Prop) (x1 : Int32) (x2 : Int32) (x3 : Int32) (y0 : Int32) (S : GS) (h : J_Mo_act_29 post x1 x2 x3 y0 S) : D2 post (fun P => J_Mo_act_29 P x1 x2 x3 y0 S) := by
  unfold J_Mo_act_29 at h ⊢
  by_cases hc119 : x3 = (5 : Int32)
  · refine D2.t hc119 ?_
    replace h := h.1 hc119
    refine D2.c1 (dt_wp_Mo_tapOf _ _ h) (fun r37 h => ?_)
    exact dt_J_Mo_act_44 _ _ _ _ _ _ _ h
  refine D2.f hc119 ?_
  replace h := h.2 hc119
  exact dt_J_Mo_act_44 _ _ _ _ _ _ _ h
set_option maxHeartbeats 1000000 in
theorem dt_J_Mo_act_14 (post : Int32 → GS → Prop) (x1 : Int32) (x2 : Int32) (y0 : Int32) (S : GS) (h : J_Mo_act_14 post x1 x2 y0 S) : D2 post (fun P => J_Mo_act_14 P x1 x2 y0 S) := by
  unfold J_Mo_act_14 at h ⊢
  by_cases hc120 : (0 : Int32) ≤ x2
  · refine D2.t hc120 ?_
    replace h := h.1 hc120
    refine D2.a h.1 ?_
    replace h := h.2
    exact dt_J_Mo_act_29 _ _ _ _ _ _ h
  refine D2.f hc120 ?_
  replace h := h.2 hc120
  exact dt_J_Mo_act_29 _ _ _ _ _ _ h
set_option maxHeartbeats 1000000 in
theorem dt_wp_Mo_act (S : GS) (p0 : Int32) (p1 : Int32) (post : Int32 → GS → Prop) (h : wp_Mo_act S p0 p1 post) : D2 post (fun P => wp_Mo_act S p0 p1 P) := by
  unfold wp_Mo_act at h ⊢
  by_cases hc121 : (0 : Int32) ≤ p1
  · refine D2.t hc121 ?_
    replace h := h.1 hc121
    refine D2.a h.1 ?_
    replace h := h.2
    exact dt_J_Mo_act_14 _ _ _ _ _ h
  refine D2.f hc121 ?_
  replace h := h.2 hc121
  exact dt_J_Mo_act_14 _ _ _ _ _ h
set_option maxHeartbeats 1000000 in
theorem dt_J_Mo_takeFirst_89 (post : Int32 → GS → Prop) (x1 : Int32) (x2 : Int32) (x3 : Int32) (x4 : Int32) (y1 : Int32) (y2 : Int32) (S : GS) (h : J_Mo_takeFirst_89 post x1 x2 x3 x4 y1 y2 S) : D2 post (fun P => J_Mo_takeFirst_89 P x1 x2 x3 x4 y1 y2 S) := by
  unfold J_Mo_takeFirst_89 at h ⊢
  refine D2.c2 (dt_wp_Mo_act _ _ _ _ h) (fun r89 S89 h => ?_)
  by_cases hc122 : r89 = (0 : Int32)
  · refine D2.t hc122 ?_
    replace h := h.1 hc122
    exact D2.p h
  refine D2.f hc122 ?_
  replace h := h.2 hc122
  refine D2.c1 (dt_wp_Mo_drop _ _ _ h) (fun S99 h => ?_)
  exact D2.p h
set_option maxHeartbeats 1000000 in
theorem dt_wp_Mo_takeFirst (S : GS) (post : Int32 → GS → Prop) (h : wp_Mo_takeFirst S post) : D2 post (fun P => wp_Mo_takeFirst S P) := by
  unfold wp_Mo_takeFirst at h ⊢
  refine D2.a h.1 ?_
  replace h := h.2
  refine D2.a h.1 ?_
  replace h := h.2
  by_cases hc123 : (((S.1 14) (0 : Int32).toNatClampNeg) - ((S.1 14) (0 : Int32).toNatClampNeg) / (2 : Int32) * (2 : Int32)) = (0 : Int32)
  · refine D2.t hc123 ?_
    replace h := h.1 hc123
    refine D2.c1 (dt_wp_Mo_takeRelease _ _ _ h) (fun S22 h => ?_)
    refine D2.c1 (dt_wp_Mo_drop _ _ _ h) (fun S27 h => ?_)
    exact D2.p h
  refine D2.f hc123 ?_
  replace h := h.2 hc123
  refine D2.c1 (dt_wp_Mo_rowLength _ _ h) (fun r33 h => ?_)
  refine D2.c1 (dt_wp_Mo_waitsForChord _ _ _ h) (fun r39 h => ?_)
  by_cases hc124 : r39 = (0 : Int32)
  · refine D2.t hc124 ?_
    replace h := h.1 hc124
    refine D2.c1 (dt_wp_Mo_chordOf _ _ _ h) (fun r49 h => ?_)
    by_cases hc125 : r49 < (0 : Int32)
    · refine D2.t hc125 ?_
      replace h := h.1 hc125
      refine D2.c1 (dt_wp_Mo_topOf _ _ _ h) (fun r66 h => ?_)
      by_cases hc126 : (0 : Int32) ≤ r66
      · refine D2.t hc126 ?_
        replace h := h.1 hc126
        exact dt_J_Mo_takeFirst_89 _ _ _ _ _ _ _ _ h
      refine D2.f hc126 ?_
      replace h := h.2 hc126
      exact dt_J_Mo_takeFirst_89 _ _ _ _ _ _ _ _ h
    refine D2.f hc125 ?_
    replace h := h.2 hc125
    refine D2.c1 (dt_wp_Mo_takeChord _ _ _ h) (fun S59 h => ?_)
    exact D2.p h
  refine D2.f hc124 ?_
  replace h := h.2 hc124
  exact D2.p h
set_option maxHeartbeats 1000000 in
theorem dt_J_Mo_scanOnce_30 (post : Int32 → GS → Prop) (x1 : Int32) (x2 : Int32) (S : GS) (h : J_Mo_scanOnce_30 post x1 x2 S) : D2 post (fun P => J_Mo_scanOnce_30 P x1 x2 S) := by
  unfold J_Mo_scanOnce_30 at h ⊢
  exact D2.p h
set_option maxHeartbeats 1000000 in
theorem dt_L_Mo_scanOnce_11 (post : Int32 → GS → Prop) : ∀ (n : Nat) (x1 : Int32) (x2 : Int32) (S : GS), L_Mo_scanOnce_11 post n x1 x2 S → D2 post (fun P => L_Mo_scanOnce_11 P n x1 x2 S) := by
  intro n
  induction n with
  | zero => intro x1 x2 S h; exact False.elim h
  | succ n11 ih =>
    intro x1 x2 S h
    simp only [L_Mo_scanOnce_11] at h ⊢
    by_cases hc127 : x2 = (0 : Int32)
    · refine D2.t hc127 ?_
      replace h := h.1 hc127
      exact dt_J_Mo_scanOnce_30 _ _ _ _ h
    refine D2.f hc127 ?_
    replace h := h.2 hc127
    by_cases hc128 : (S.1 2 0) ≤ (0 : Int32)
    · refine D2.t hc128 ?_
      replace h := h.1 hc128
      exact dt_J_Mo_scanOnce_30 _ _ _ _ h
    refine D2.f hc128 ?_
    replace h := h.2 hc128
    refine D2.c2 (dt_wp_Mo_takeFirst _ _ h) (fun r23 S23 h => ?_)
    exact ih _ _ _ h
set_option maxHeartbeats 1000000 in
theorem dt_wp_Mo_scanOnce (S : GS) (post : Int32 → GS → Prop) (h : wp_Mo_scanOnce S post) : D2 post (fun P => wp_Mo_scanOnce S P) := by
  unfold wp_Mo_scanOnce at h ⊢
  refine D2.c1 (dt_wp_Mo_look _ _ h) (fun S1 h => ?_)
  refine D2.c2 (dt_wp_Mo_believe _ _ h) (fun r5 S5 h => ?_)
  obtain ⟨q11, h⟩ := h
  refine D2.e q11 ?_
  exact dt_L_Mo_scanOnce_11 _ _ _ _ _ h
set_option maxHeartbeats 1000000 in
theorem dt_wp_Mo_scan (S : GS) (post : Int32 → GS → Prop) (h : wp_Mo_scan S post) : D2 post (fun P => wp_Mo_scan S P) := by
  unfold wp_Mo_scan at h ⊢
  refine D2.c2 (dt_wp_Mo_scanOnce _ _ h) (fun r6 S6 h => ?_)
  exact D2.p h
set_option maxHeartbeats 1000000 in
theorem dt_L_Mo_scans_29 (post : Int32 → GS → Prop) : ∀ (n : Nat) (x1 : Int32) (x2 : Int32) (x3 : Int32) (S : GS), L_Mo_scans_29 post n x1 x2 x3 S → D2 post (fun P => L_Mo_scans_29 P n x1 x2 x3 S) := by
  intro n
  induction n with
  | zero => intro x1 x2 x3 S h; exact False.elim h
  | succ n29 ih =>
    intro x1 x2 x3 S h
    simp only [L_Mo_scans_29] at h ⊢
    by_cases hc129 : x1 ≤ x3
    · refine D2.t hc129 ?_
      replace h := h.1 hc129
      exact D2.p h
    refine D2.f hc129 ?_
    replace h := h.2 hc129
    refine D2.c2 (dt_wp_Mo_scanOnce _ _ h) (fun r36 S36 h => ?_)
    exact ih _ _ _ _ h
set_option maxHeartbeats 1000000 in
theorem dt_J_Mo_scans_17 (post : Int32 → GS → Prop) (x1 : Int32) (y1 : Int32) (S : GS) (h : J_Mo_scans_17 post x1 y1 S) : D2 post (fun P => J_Mo_scans_17 P x1 y1 S) := by
  unfold J_Mo_scans_17 at h ⊢
  refine D2.c2 (dt_wp_Mo_refused _ _ _ h) (fun r17 S17 h => ?_)
  by_cases hc130 : r17 = (0 : Int32)
  · refine D2.t hc130 ?_
    replace h := h.1 hc130
    obtain ⟨q29, h⟩ := h
    refine D2.e q29 ?_
    exact dt_L_Mo_scans_29 _ _ _ _ _ _ h
  refine D2.f hc130 ?_
  replace h := h.2 hc130
  exact D2.p h
set_option maxHeartbeats 1000000 in
theorem dt_J_Mo_scans_12 (post : Int32 → GS → Prop) (x1 : Int32) (S : GS) (h : J_Mo_scans_12 post x1 S) : D2 post (fun P => J_Mo_scans_12 P x1 S) := by
  unfold J_Mo_scans_12 at h ⊢
  exact dt_J_Mo_scans_17 _ _ _ _ h
set_option maxHeartbeats 1000000 in
theorem dt_wp_Mo_scans (S : GS) (p0 : Int32) (post : Int32 → GS → Prop) (h : wp_Mo_scans S p0 post) : D2 post (fun P => wp_Mo_scans S p0 P) := by
  unfold wp_Mo_scans at h ⊢
  by_cases hc131 : p0 < (1 : Int32)
  · refine D2.t hc131 ?_
    replace h := h.1 hc131
    exact dt_J_Mo_scans_12 _ _ _ h
  refine D2.f hc131 ?_
  replace h := h.2 hc131
  by_cases hc132 : p0 ≤ (100 : Int32)
  · refine D2.t hc132 ?_
    replace h := h.1 hc132
    exact dt_J_Mo_scans_17 _ _ _ _ h
  refine D2.f hc132 ?_
  replace h := h.2 hc132
  exact dt_J_Mo_scans_12 _ _ _ h
set_option maxHeartbeats 1000000 in
theorem dt_L_Mo_poll_33 (post : Int32 → GS → Prop) : ∀ (n : Nat) (x1 : Int32) (S : GS), L_Mo_poll_33 post n x1 S → D2 post (fun P => L_Mo_poll_33 P n x1 S) := by
  intro n
  induction n with
  | zero => intro x1 S h; exact False.elim h
  | succ n33 ih =>
    intro x1 S h
    simp only [L_Mo_poll_33] at h ⊢
    by_cases hc133 : (S.1 5 0) ≤ x1
    · refine D2.t hc133 ?_
      replace h := h.1 hc133
      by_cases hc134 : (S.1 6 0) = (0 : Int32)
      · refine D2.t hc134 ?_
        replace h := h.1 hc134
        exact D2.p h
      refine D2.f hc134 ?_
      replace h := h.2 hc134
      refine D2.c1 (dt_wp_Mo_tell _ _ h) (fun S68 h => ?_)
      exact D2.p h
    refine D2.f hc133 ?_
    replace h := h.2 hc133
    refine D2.c1 (dt_wp_Mo_copyReport _ _ _ _ h) (fun S46 h => ?_)
    exact ih _ _ h
set_option maxHeartbeats 1000000 in
theorem dt_wp_Mo_poll (S : GS) (post : Int32 → GS → Prop) (h : wp_Mo_poll S post) : D2 post (fun P => wp_Mo_poll S P) := by
  unfold wp_Mo_poll at h ⊢
  by_cases hc135 : (S.1 5 0) = (0 : Int32)
  · refine D2.t hc135 ?_
    replace h := h.1 hc135
    exact D2.p h
  refine D2.f hc135 ?_
  replace h := h.2 hc135
  refine D2.c1 (dt_wp_Mo_copyReport _ _ _ _ h) (fun S18 h => ?_)
  obtain ⟨q33, h⟩ := h
  refine D2.e q33 ?_
  exact dt_L_Mo_poll_33 _ _ _ _ h
set_option maxHeartbeats 1000000 in
theorem dt_wp_Mo_report (S : GS) (p0 : Int32) (post : Int32 → GS → Prop) (h : wp_Mo_report S p0 post) : D2 post (fun P => wp_Mo_report S p0 P) := by
  unfold wp_Mo_report at h ⊢
  by_cases hc136 : p0 < (0 : Int32)
  · refine D2.t hc136 ?_
    replace h := h.1 hc136
    exact D2.p h
  refine D2.f hc136 ?_
  replace h := h.2 hc136
  by_cases hc137 : p0 ≤ (6 : Int32)
  · refine D2.t hc137 ?_
    replace h := h.1 hc137
    refine D2.a h.1 ?_
    replace h := h.2
    exact D2.p h
  refine D2.f hc137 ?_
  replace h := h.2 hc137
  exact D2.p h
set_option maxHeartbeats 1000000 in
theorem dt_wp_Mo_waiting (S : GS) (post : Int32 → GS → Prop) (h : wp_Mo_waiting S post) : D2 post (fun P => wp_Mo_waiting S P) := by
  unfold wp_Mo_waiting at h ⊢
  exact D2.p h
set_option maxHeartbeats 1000000 in
theorem dt_wp_Mo_late (S : GS) (post : Int32 → GS → Prop) (h : wp_Mo_late S post) : D2 post (fun P => wp_Mo_late S P) := by
  unfold wp_Mo_late at h ⊢
  refine D2.a h.1 ?_
  replace h := h.2
  exact D2.p h
set_option maxHeartbeats 1000000 in
theorem dt_J_Mo_isSound_15 (post : Int32 → Prop) (x0 : Int32) (x1 : Int32) (x2 : Int32) (y0 : Int32) (h : J_Mo_isSound_15 post x0 x1 x2 y0) : D1 post (fun P => J_Mo_isSound_15 P x0 x1 x2 y0) := by
  unfold J_Mo_isSound_15 at h ⊢
  by_cases hc138 : x0 = (0 : Int32)
  · refine D1.t hc138 ?_
    replace h := h.1 hc138
    exact D1.p h
  refine D1.f hc138 ?_
  replace h := h.2 hc138
  by_cases hc139 : x0 = (1 : Int32)
  · refine D1.t hc139 ?_
    replace h := h.1 hc139
    refine D1.c1 (dt_wp_Mo_isCode _ _ h) (fun r63 h => ?_)
    refine D1.a h.1 ?_
    replace h := h.2
    exact D1.p h
  refine D1.f hc139 ?_
  replace h := h.2 hc139
  by_cases hc140 : x0 = (2 : Int32)
  · refine D1.t hc140 ?_
    replace h := h.1 hc140
    refine D1.a h.1 ?_
    replace h := h.2
    exact D1.p h
  refine D1.f hc140 ?_
  replace h := h.2 hc140
  by_cases hc141 : x0 = (3 : Int32)
  · refine D1.t hc141 ?_
    replace h := h.1 hc141
    refine D1.a h.1 ?_
    replace h := h.2
    exact D1.p h
  refine D1.f hc141 ?_
  replace h := h.2 hc141
  by_cases hc142 : x0 = (4 : Int32)
  · refine D1.t hc142 ?_
    replace h := h.1 hc142
    refine D1.a h.1 ?_
    replace h := h.2
    exact D1.p h
  refine D1.f hc142 ?_
  replace h := h.2 hc142
  by_cases hc143 : x0 = (5 : Int32)
  · refine D1.t hc143 ?_
    replace h := h.1 hc143
    refine D1.c1 (dt_wp_Mo_isCode _ _ h) (fun r70 h => ?_)
    by_cases hc144 : r70 = (0 : Int32)
    · refine D1.t hc144 ?_
      replace h := h.1 hc144
      exact D1.p h
    refine D1.f hc144 ?_
    replace h := h.2 hc144
    by_cases hc145 : x2 < (1 : Int32)
    · refine D1.t hc145 ?_
      replace h := h.1 hc145
      exact D1.p h
    refine D1.f hc145 ?_
    replace h := h.2 hc145
    by_cases hc146 : (3 : Int32) < x2
    · refine D1.t hc146 ?_
      replace h := h.1 hc146
      exact D1.p h
    refine D1.f hc146 ?_
    replace h := h.2 hc146
    exact D1.p h
  refine D1.f hc143 ?_
  replace h := h.2 hc143
  by_cases hc147 : x0 = (6 : Int32)
  · refine D1.t hc147 ?_
    replace h := h.1 hc147
    refine D1.c1 (dt_wp_Mo_isFour _ _ h) (fun r93 h => ?_)
    refine D1.a h.1 ?_
    replace h := h.2
    exact D1.p h
  refine D1.f hc147 ?_
  replace h := h.2 hc147
  exact D1.p h
set_option maxHeartbeats 1000000 in
theorem dt_J_Mo_isSound_14 (post : Int32 → Prop) (x0 : Int32) (x1 : Int32) (x2 : Int32) (h : J_Mo_isSound_14 post x0 x1 x2) : D1 post (fun P => J_Mo_isSound_14 P x0 x1 x2) := by
  unfold J_Mo_isSound_14 at h ⊢
  exact dt_J_Mo_isSound_15 _ _ _ _ _ h
set_option maxHeartbeats 1000000 in
theorem dt_wp_Mo_isSound (p0 : Int32) (p1 : Int32) (p2 : Int32) (post : Int32 → Prop) (h : wp_Mo_isSound p0 p1 p2 post) : D1 post (fun P => wp_Mo_isSound p0 p1 p2 P) := by
  unfold wp_Mo_isSound at h ⊢
  by_cases hc148 : p1 < (1 : Int32)
  · refine D1.t hc148 ?_
    replace h := h.1 hc148
    exact dt_J_Mo_isSound_14 _ _ _ _ h
  refine D1.f hc148 ?_
  replace h := h.2 hc148
  by_cases hc149 : (3 : Int32) < p1
  · refine D1.t hc149 ?_
    replace h := h.1 hc149
    exact dt_J_Mo_isSound_14 _ _ _ _ h
  refine D1.f hc149 ?_
  replace h := h.2 hc149
  exact dt_J_Mo_isSound_15 _ _ _ _ _ h
set_option maxHeartbeats 1000000 in
theorem dt_J_Mo_map_47 (post : GS → Prop) (x1 : Int32) (x2 : Int32) (x3 : Int32) (x4 : Int32) (x5 : Int32) (x6 : Int32) (y1 : Int32) (S : GS) (h : J_Mo_map_47 post x1 x2 x3 x4 x5 x6 y1 S) : D1 post (fun P => J_Mo_map_47 P x1 x2 x3 x4 x5 x6 y1 S) := by
  unfold J_Mo_map_47 at h ⊢
  refine D1.c2 (dt_wp_Mo_refused _ _ _ h) (fun r47 S47 h => ?_)
  by_cases hc150 : r47 = (0 : Int32)
  · refine D1.t hc150 ?_
    replace h := h.1 hc150
    refine D1.a h.1 ?_
    replace h := h.2
    refine D1.a h.1 ?_
    replace h := h.2
    refine D1.a h.1 ?_
    replace h := h.2
    exact D1.p h
  refine D1.f hc150 ?_
  replace h := h.2 hc150
  exact D1.p h
set_option maxHeartbeats 1000000 in
theorem dt_J_Mo_map_19 (post : GS → Prop) (x1 : Int32) (x2 : Int32) (x3 : Int32) (x4 : Int32) (x5 : Int32) (y0 : Int32) (S : GS) (h : J_Mo_map_19 post x1 x2 x3 x4 x5 y0 S) : D1 post (fun P => J_Mo_map_19 P x1 x2 x3 x4 x5 y0 S) := by
  unfold J_Mo_map_19 at h ⊢
  by_cases hc151 : y0 = (0 : Int32)
  · refine D1.t hc151 ?_
    replace h := h.1 hc151
    exact dt_J_Mo_map_47 _ _ _ _ _ _ _ _ _ h
  refine D1.f hc151 ?_
  replace h := h.2 hc151
  refine D1.c1 (dt_wp_Mo_isSound _ _ _ _ h) (fun r36 h => ?_)
  by_cases hc152 : r36 = (0 : Int32)
  · refine D1.t hc152 ?_
    replace h := h.1 hc152
    exact dt_J_Mo_map_47 _ _ _ _ _ _ _ _ _ h
  refine D1.f hc152 ?_
  replace h := h.2 hc152
  exact dt_J_Mo_map_47 _ _ _ _ _ _ _ _ _ h
set_option maxHeartbeats 1000000 in
theorem dt_J_Mo_map_18 (post : GS → Prop) (x1 : Int32) (x2 : Int32) (x3 : Int32) (x4 : Int32) (x5 : Int32) (S : GS) (h : J_Mo_map_18 post x1 x2 x3 x4 x5 S) : D1 post (fun P => J_Mo_map_18 P x1 x2 x3 x4 x5 S) := by
  unfold J_Mo_map_18 at h ⊢
  exact dt_J_Mo_map_19 _ _ _ _ _ _ _ _ h
set_option maxHeartbeats 1000000 in
theorem dt_wp_Mo_map (S : GS) (p0 : Int32) (p1 : Int32) (p2 : Int32) (p3 : Int32) (p4 : Int32) (post : GS → Prop) (h : wp_Mo_map S p0 p1 p2 p3 p4 post) : D1 post (fun P => wp_Mo_map S p0 p1 p2 p3 p4 P) := by
  unfold wp_Mo_map at h ⊢
  refine D1.c1 (dt_wp_Mo_isFour _ _ h) (fun r1 h => ?_)
  by_cases hc153 : r1 = (0 : Int32)
  · refine D1.t hc153 ?_
    replace h := h.1 hc153
    exact dt_J_Mo_map_18 _ _ _ _ _ _ _ h
  refine D1.f hc153 ?_
  replace h := h.2 hc153
  refine D1.c1 (dt_wp_Mo_isKey _ _ h) (fun r8 h => ?_)
  by_cases hc154 : r8 = (0 : Int32)
  · refine D1.t hc154 ?_
    replace h := h.1 hc154
    exact dt_J_Mo_map_18 _ _ _ _ _ _ _ h
  refine D1.f hc154 ?_
  replace h := h.2 hc154
  exact dt_J_Mo_map_19 _ _ _ _ _ _ _ _ h
set_option maxHeartbeats 1000000 in
theorem dt_J_Mo_macro_35 (post : GS → Prop) (x1 : Int32) (x2 : Int32) (x3 : Int32) (y1 : Int32) (S : GS) (h : J_Mo_macro_35 post x1 x2 x3 y1 S) : D1 post (fun P => J_Mo_macro_35 P x1 x2 x3 y1 S) := by
  unfold J_Mo_macro_35 at h ⊢
  refine D1.c2 (dt_wp_Mo_refused _ _ _ h) (fun r35 S35 h => ?_)
  by_cases hc155 : r35 = (0 : Int32)
  · refine D1.t hc155 ?_
    replace h := h.1 hc155
    refine D1.a h.1 ?_
    replace h := h.2
    exact D1.p h
  refine D1.f hc155 ?_
  replace h := h.2 hc155
  exact D1.p h
set_option maxHeartbeats 1000000 in
theorem dt_J_Mo_macro_34 (post : GS → Prop) (x1 : Int32) (x2 : Int32) (x3 : Int32) (S : GS) (h : J_Mo_macro_34 post x1 x2 x3 S) : D1 post (fun P => J_Mo_macro_34 P x1 x2 x3 S) := by
  unfold J_Mo_macro_34 at h ⊢
  exact dt_J_Mo_macro_35 _ _ _ _ _ _ h
set_option maxHeartbeats 1000000 in
theorem dt_J_Mo_macro_15 (post : GS → Prop) (x1 : Int32) (x2 : Int32) (x3 : Int32) (S : GS) (h : J_Mo_macro_15 post x1 x2 x3 S) : D1 post (fun P => J_Mo_macro_15 P x1 x2 x3 S) := by
  unfold J_Mo_macro_15 at h ⊢
  exact dt_J_Mo_macro_35 _ _ _ _ _ _ h
set_option maxHeartbeats 1000000 in
theorem dt_wp_Mo_macro (S : GS) (p0 : Int32) (p1 : Int32) (p2 : Int32) (post : GS → Prop) (h : wp_Mo_macro S p0 p1 p2 post) : D1 post (fun P => wp_Mo_macro S p0 p1 p2 P) := by
  unfold wp_Mo_macro at h ⊢
  refine D1.c1 (dt_wp_Mo_isFour _ _ h) (fun r2 h => ?_)
  by_cases hc156 : r2 = (0 : Int32)
  · refine D1.t hc156 ?_
    replace h := h.1 hc156
    exact dt_J_Mo_macro_15 _ _ _ _ _ h
  refine D1.f hc156 ?_
  replace h := h.2 hc156
  refine D1.c1 (dt_wp_Mo_isFour _ _ h) (fun r9 h => ?_)
  by_cases hc157 : r9 = (0 : Int32)
  · refine D1.t hc157 ?_
    replace h := h.1 hc157
    exact dt_J_Mo_macro_15 _ _ _ _ _ h
  refine D1.f hc157 ?_
  replace h := h.2 hc157
  by_cases hc158 : p2 = (0 : Int32)
  · refine D1.t hc158 ?_
    replace h := h.1 hc158
    exact dt_J_Mo_macro_34 _ _ _ _ _ h
  refine D1.f hc158 ?_
  replace h := h.2 hc158
  refine D1.c1 (dt_wp_Mo_isCode _ _ h) (fun r24 h => ?_)
  by_cases hc159 : r24 = (0 : Int32)
  · refine D1.t hc159 ?_
    replace h := h.1 hc159
    exact dt_J_Mo_macro_35 _ _ _ _ _ _ h
  refine D1.f hc159 ?_
  replace h := h.2 hc159
  exact dt_J_Mo_macro_34 _ _ _ _ _ h
set_option maxHeartbeats 1000000 in
theorem dt_J_Mo_chord_128 (post : GS → Prop) (x1 : Int32) (x2 : Int32) (x3 : Int32) (x4 : Int32) (x5 : Int32) (x6 : Int32) (x7 : Int32) (y1 : Int32) (S : GS) (h : J_Mo_chord_128 post x1 x2 x3 x4 x5 x6 x7 y1 S) : D1 post (fun P => J_Mo_chord_128 P x1 x2 x3 x4 x5 x6 x7 y1 S) := by
  unfold J_Mo_chord_128 at h ⊢
  refine D1.c2 (dt_wp_Mo_refused _ _ _ h) (fun r128 S128 h => ?_)
  by_cases hc160 : r128 = (0 : Int32)
  · refine D1.t hc160 ?_
    replace h := h.1 hc160
    refine D1.a h.1 ?_
    replace h := h.2
    refine D1.a h.1 ?_
    replace h := h.2
    exact D1.p h
  refine D1.f hc160 ?_
  replace h := h.2 hc160
  exact D1.p h
set_option maxHeartbeats 1000000 in
theorem dt_J_Mo_chord_84 (post : GS → Prop) (k52 : (GS → Prop) → Int32 → Int32 → Int32 → Int32 → Int32 → Int32 → Int32 → GS → Prop) (hk52 : ∀ (z0 : Int32) (z1 : Int32) (z2 : Int32) (z3 : Int32) (z4 : Int32) (z5 : Int32) (z6 : Int32) (z7 : GS), k52 post z0 z1 z2 z3 z4 z5 z6 z7 → D1 post (fun P => k52 P z0 z1 z2 z3 z4 z5 z6 z7)) (x1 : Int32) (x2 : Int32) (x3 : Int32) (x4 : Int32) (x5 : Int32) (x6 : Int32) (x7 : Int32) (S : GS) (h : J_Mo_chord_84 post (k52 post) x1 x2 x3 x4 x5 x6 x7 S) : D1 post (fun P => J_Mo_chord_84 P (k52 P) x1 x2 x3 x4 x5 x6 x7 S) := by
  unfold J_Mo_chord_84 at h ⊢
  exact hk52 _ _ _ _ _ _ _ _ h
set_option maxHeartbeats 1000000 in
theorem dt_L_Mo_chord_52 (post : GS → Prop) : ∀ (n : Nat) (x1 : Int32) (x2 : Int32) (x3 : Int32) (x4 : Int32) (x5 : Int32) (x6 : Int32) (x7 : Int32) (S : GS), L_Mo_chord_52 post n x1 x2 x3 x4 x5 x6 x7 S → D1 post (fun P => L_Mo_chord_52 P n x1 x2 x3 x4 x5 x6 x7 S) := by
  intro n
  induction n with
  | zero => intro x1 x2 x3 x4 x5 x6 x7 S h; exact False.elim h
  | succ n52 ih =>
    intro x1 x2 x3 x4 x5 x6 x7 S h
    simp only [L_Mo_chord_52] at h ⊢
    by_cases hc161 : (4 : Int32) ≤ x7
    · refine D1.t hc161 ?_
      replace h := h.1 hc161
      refine D1.c1 (dt_wp_Mo_isFour _ _ h) (fun r99 h => ?_)
      by_cases hc162 : r99 = (0 : Int32)
      · refine D1.t hc162 ?_
        replace h := h.1 hc162
        exact dt_J_Mo_chord_128 _ _ _ _ _ _ _ _ _ _ h
      refine D1.f hc162 ?_
      replace h := h.2 hc162
      by_cases hc163 : x5 = (0 : Int32)
      · refine D1.t hc163 ?_
        replace h := h.1 hc163
        exact dt_J_Mo_chord_128 _ _ _ _ _ _ _ _ _ _ h
      refine D1.f hc163 ?_
      replace h := h.2 hc163
      by_cases hc164 : x6 = (0 : Int32)
      · refine D1.t hc164 ?_
        replace h := h.1 hc164
        exact dt_J_Mo_chord_128 _ _ _ _ _ _ _ _ _ _ h
      refine D1.f hc164 ?_
      replace h := h.2 hc164
      exact dt_J_Mo_chord_128 _ _ _ _ _ _ _ _ _ _ h
    refine D1.f hc161 ?_
    replace h := h.2 hc161
    by_cases hc165 : x6 = (0 : Int32)
    · refine D1.t hc165 ?_
      replace h := h.1 hc165
      by_cases hc166 : x2 = (0 : Int32)
      · refine D1.t hc166 ?_
        replace h := h.1 hc166
        exact ih _ _ _ _ _ _ _ _ h
      refine D1.f hc166 ?_
      replace h := h.2 hc166
      by_cases hc167 : x7 = x1
      · refine D1.t hc167 ?_
        replace h := h.1 hc167
        exact ih _ _ _ _ _ _ _ _ h
      refine D1.f hc167 ?_
      replace h := h.2 hc167
      refine D1.a h.1 ?_
      replace h := h.2
      by_cases hc168 : ((S.1 21) x7.toNatClampNeg) = x2
      · refine D1.t hc168 ?_
        replace h := h.1 hc168
        exact dt_J_Mo_chord_84 _ (fun P z0 z1 z2 z3 z4 z5 z6 z7 => L_Mo_chord_52 P n52 z0 z1 z2 z3 z4 z5 z6 z7) (fun z0 z1 z2 z3 z4 z5 z6 z7 h => ih z0 z1 z2 z3 z4 z5 z6 z7 h) _ _ _ _ _ _ _ _ h
      refine D1.f hc168 ?_
      replace h := h.2 hc168
      exact ih _ _ _ _ _ _ _ _ h
    refine D1.f hc165 ?_
    replace h := h.2 hc165
    exact dt_J_Mo_chord_84 _ (fun P z0 z1 z2 z3 z4 z5 z6 z7 => L_Mo_chord_52 P n52 z0 z1 z2 z3 z4 z5 z6 z7) (fun z0 z1 z2 z3 z4 z5 z6 z7 h => ih z0 z1 z2 z3 z4 z5 z6 z7 h) _ _ _ _ _ _ _ _ h
set_option maxHeartbeats 1000000 in
theorem dt_J_Mo_chord_44 (post : GS → Prop) (x1 : Int32) (x2 : Int32) (x3 : Int32) (x4 : Int32) (y0 : Int32) (S : GS) (h : J_Mo_chord_44 post x1 x2 x3 x4 y0 S) : D1 post (fun P => J_Mo_chord_44 P x1 x2 x3 x4 y0 S) := by
  unfold J_Mo_chord_44 at h ⊢
  obtain ⟨q52, h⟩ := h
  refine D1.e q52 ?_
  exact dt_L_Mo_chord_52 _ _ _ _ _ _ _ _ _ _ h
set_option maxHeartbeats 1000000 in
theorem dt_J_Mo_chord_43 (post : GS → Prop) (x1 : Int32) (x2 : Int32) (x3 : Int32) (x4 : Int32) (S : GS) (h : J_Mo_chord_43 post x1 x2 x3 x4 S) : D1 post (fun P => J_Mo_chord_43 P x1 x2 x3 x4 S) := by
  unfold J_Mo_chord_43 at h ⊢
  exact dt_J_Mo_chord_44 _ _ _ _ _ _ _ h
set_option maxHeartbeats 1000000 in
theorem dt_J_Mo_chord_39 (post : GS → Prop) (x1 : Int32) (x2 : Int32) (x3 : Int32) (x4 : Int32) (S : GS) (h : J_Mo_chord_39 post x1 x2 x3 x4 S) : D1 post (fun P => J_Mo_chord_39 P x1 x2 x3 x4 S) := by
  unfold J_Mo_chord_39 at h ⊢
  exact dt_J_Mo_chord_44 _ _ _ _ _ _ _ h
set_option maxHeartbeats 1000000 in
theorem dt_wp_Mo_chord (S : GS) (p0 : Int32) (p1 : Int32) (p2 : Int32) (post : GS → Prop) (h : wp_Mo_chord S p0 p1 p2 post) : D1 post (fun P => wp_Mo_chord S p0 p1 p2 P) := by
  unfold wp_Mo_chord at h ⊢
  refine D1.c1 (dt_wp_Mo_bitsOf _ _ h) (fun r1 h => ?_)
  by_cases hc169 : p1 = (0 : Int32)
  · refine D1.t hc169 ?_
    replace h := h.1 hc169
    exact dt_J_Mo_chord_39 _ _ _ _ _ _ h
  refine D1.f hc169 ?_
  replace h := h.2 hc169
  by_cases hc170 : p1 ≤ (0 : Int32)
  · refine D1.t hc170 ?_
    replace h := h.1 hc170
    exact dt_J_Mo_chord_43 _ _ _ _ _ _ h
  refine D1.f hc170 ?_
  replace h := h.2 hc170
  by_cases hc171 : (16777216 : Int32) ≤ p1
  · refine D1.t hc171 ?_
    replace h := h.1 hc171
    exact dt_J_Mo_chord_43 _ _ _ _ _ _ h
  refine D1.f hc171 ?_
  replace h := h.2 hc171
  by_cases hc172 : r1 ≤ (1 : Int32)
  · refine D1.t hc172 ?_
    replace h := h.1 hc172
    exact dt_J_Mo_chord_43 _ _ _ _ _ _ h
  refine D1.f hc172 ?_
  replace h := h.2 hc172
  by_cases hc173 : (5 : Int32) ≤ r1
  · refine D1.t hc173 ?_
    replace h := h.1 hc173
    exact dt_J_Mo_chord_43 _ _ _ _ _ _ h
  refine D1.f hc173 ?_
  replace h := h.2 hc173
  refine D1.c1 (dt_wp_Mo_isCode _ _ h) (fun r33 h => ?_)
  by_cases hc174 : r33 = (0 : Int32)
  · refine D1.t hc174 ?_
    replace h := h.1 hc174
    exact dt_J_Mo_chord_43 _ _ _ _ _ _ h
  refine D1.f hc174 ?_
  replace h := h.2 hc174
  exact dt_J_Mo_chord_39 _ _ _ _ _ _ h
set_option maxHeartbeats 1000000 in
theorem dt_J_Mo_on_13 (post : Int32 → GS → Prop) (x1 : Int32) (y1 : Int32) (S : GS) (h : J_Mo_on_13 post x1 y1 S) : D2 post (fun P => J_Mo_on_13 P x1 y1 S) := by
  unfold J_Mo_on_13 at h ⊢
  refine D2.c2 (dt_wp_Mo_refused _ _ _ h) (fun r13 S13 h => ?_)
  by_cases hc175 : r13 = (0 : Int32)
  · refine D2.t hc175 ?_
    replace h := h.1 hc175
    refine D2.c1 (dt_wp_Mo_isOn _ _ _ h) (fun r21 h => ?_)
    by_cases hc176 : r21 = (0 : Int32)
    · refine D2.t hc176 ?_
      replace h := h.1 hc176
      exact D2.p h
    refine D2.f hc176 ?_
    replace h := h.2 hc176
    exact D2.p h
  refine D2.f hc175 ?_
  replace h := h.2 hc175
  exact D2.p h
set_option maxHeartbeats 1000000 in
theorem dt_wp_Mo_on (S : GS) (p0 : Int32) (post : Int32 → GS → Prop) (h : wp_Mo_on S p0 post) : D2 post (fun P => wp_Mo_on S p0 P) := by
  unfold wp_Mo_on at h ⊢
  refine D2.c1 (dt_wp_Mo_isFour _ _ h) (fun r2 h => ?_)
  by_cases hc177 : r2 = (0 : Int32)
  · refine D2.t hc177 ?_
    replace h := h.1 hc177
    exact dt_J_Mo_on_13 _ _ _ _ h
  refine D2.f hc177 ?_
  replace h := h.2 hc177
  exact dt_J_Mo_on_13 _ _ _ _ h
set_option maxHeartbeats 1000000 in
theorem dt_J_Mo_top_13 (post : Int32 → GS → Prop) (x1 : Int32) (y1 : Int32) (S : GS) (h : J_Mo_top_13 post x1 y1 S) : D2 post (fun P => J_Mo_top_13 P x1 y1 S) := by
  unfold J_Mo_top_13 at h ⊢
  refine D2.c2 (dt_wp_Mo_refused _ _ _ h) (fun r13 S13 h => ?_)
  by_cases hc178 : r13 = (0 : Int32)
  · refine D2.t hc178 ?_
    replace h := h.1 hc178
    refine D2.c1 (dt_wp_Mo_topOf _ _ _ h) (fun r25 h => ?_)
    exact D2.p h
  refine D2.f hc178 ?_
  replace h := h.2 hc178
  exact D2.p h
set_option maxHeartbeats 1000000 in
theorem dt_wp_Mo_top (S : GS) (p0 : Int32) (post : Int32 → GS → Prop) (h : wp_Mo_top S p0 post) : D2 post (fun P => wp_Mo_top S p0 P) := by
  unfold wp_Mo_top at h ⊢
  refine D2.c1 (dt_wp_Mo_isKey _ _ h) (fun r2 h => ?_)
  by_cases hc179 : r2 = (0 : Int32)
  · refine D2.t hc179 ?_
    replace h := h.1 hc179
    exact dt_J_Mo_top_13 _ _ _ _ h
  refine D2.f hc179 ?_
  replace h := h.2 hc179
  exact dt_J_Mo_top_13 _ _ _ _ h
set_option maxHeartbeats 1000000 in
theorem dt_J_Mo_key_92 (post : Int32 → GS → Prop) (x1 : Int32) (x2 : Int32) (y0 : Int32) (S : GS) (h : J_Mo_key_92 post x1 x2 y0 S) : D2 post (fun P => J_Mo_key_92 P x1 x2 y0 S) := by
  unfold J_Mo_key_92 at h ⊢
  by_cases hc180 : y0 = (0 : Int32)
  · refine D2.t hc180 ?_
    replace h := h.1 hc180
    exact D2.p h
  refine D2.f hc180 ?_
  replace h := h.2 hc180
  exact D2.p h
set_option maxHeartbeats 1000000 in
theorem dt_J_Mo_key_91 (post : Int32 → GS → Prop) (x1 : Int32) (x2 : Int32) (S : GS) (h : J_Mo_key_91 post x1 x2 S) : D2 post (fun P => J_Mo_key_91 P x1 x2 S) := by
  unfold J_Mo_key_91 at h ⊢
  exact dt_J_Mo_key_92 _ _ _ _ _ h
set_option maxHeartbeats 1000000 in
theorem dt_J_Mo_key_20 (post : Int32 → GS → Prop) (x1 : Int32) (x2 : Int32) (y1 : Int32) (S : GS) (h : J_Mo_key_20 post x1 x2 y1 S) : D2 post (fun P => J_Mo_key_20 P x1 x2 y1 S) := by
  unfold J_Mo_key_20 at h ⊢
  refine D2.c2 (dt_wp_Mo_refused _ _ _ h) (fun r20 S20 h => ?_)
  by_cases hc181 : r20 = (0 : Int32)
  · refine D2.t hc181 ?_
    replace h := h.1 hc181
    by_cases hc182 : x2 = (0 : Int32)
    · refine D2.t hc182 ?_
      replace h := h.1 hc182
      refine D2.a h.1 ?_
      replace h := h.2
      exact dt_J_Mo_key_92 _ _ _ _ _ h
    refine D2.f hc182 ?_
    replace h := h.2 hc182
    by_cases hc183 : x2 = (1 : Int32)
    · refine D2.t hc183 ?_
      replace h := h.1 hc183
      refine D2.a h.1 ?_
      replace h := h.2
      exact dt_J_Mo_key_92 _ _ _ _ _ h
    refine D2.f hc183 ?_
    replace h := h.2 hc183
    by_cases hc184 : x2 = (2 : Int32)
    · refine D2.t hc184 ?_
      replace h := h.1 hc184
      refine D2.a h.1 ?_
      replace h := h.2
      exact dt_J_Mo_key_92 _ _ _ _ _ h
    refine D2.f hc184 ?_
    replace h := h.2 hc184
    refine D2.a h.1 ?_
    replace h := h.2
    by_cases hc185 : ((S20.1 11) x1.toNatClampNeg) = (0 : Int32)
    · refine D2.t hc185 ?_
      replace h := h.1 hc185
      exact dt_J_Mo_key_91 _ _ _ _ h
    refine D2.f hc185 ?_
    replace h := h.2 hc185
    refine D2.a h.1 ?_
    replace h := h.2
    by_cases hc186 : ((S20.1 13) x1.toNatClampNeg) = (0 : Int32)
    · refine D2.t hc186 ?_
      replace h := h.1 hc186
      exact dt_J_Mo_key_92 _ _ _ _ _ h
    refine D2.f hc186 ?_
    replace h := h.2 hc186
    exact dt_J_Mo_key_91 _ _ _ _ h
  refine D2.f hc181 ?_
  replace h := h.2 hc181
  exact D2.p h
set_option maxHeartbeats 1000000 in
theorem dt_J_Mo_key_19 (post : Int32 → GS → Prop) (x1 : Int32) (x2 : Int32) (S : GS) (h : J_Mo_key_19 post x1 x2 S) : D2 post (fun P => J_Mo_key_19 P x1 x2 S) := by
  unfold J_Mo_key_19 at h ⊢
  exact dt_J_Mo_key_20 _ _ _ _ _ h
set_option maxHeartbeats 1000000 in
theorem dt_wp_Mo_key (S : GS) (p0 : Int32) (p1 : Int32) (post : Int32 → GS → Prop) (h : wp_Mo_key S p0 p1 post) : D2 post (fun P => wp_Mo_key S p0 p1 P) := by
  unfold wp_Mo_key at h ⊢
  refine D2.c1 (dt_wp_Mo_isKey _ _ h) (fun r2 h => ?_)
  by_cases hc187 : r2 = (0 : Int32)
  · refine D2.t hc187 ?_
    replace h := h.1 hc187
    exact dt_J_Mo_key_19 _ _ _ _ h
  refine D2.f hc187 ?_
  replace h := h.2 hc187
  refine D2.c1 (dt_wp_Mo_isFour _ _ h) (fun r9 h => ?_)
  by_cases hc188 : r9 = (0 : Int32)
  · refine D2.t hc188 ?_
    replace h := h.1 hc188
    exact dt_J_Mo_key_19 _ _ _ _ h
  refine D2.f hc188 ?_
  replace h := h.2 hc188
  exact dt_J_Mo_key_20 _ _ _ _ _ h
set_option maxHeartbeats 1000000 in
theorem dt_wp_Mo_queued (S : GS) (post : Int32 → GS → Prop) (h : wp_Mo_queued S post) : D2 post (fun P => wp_Mo_queued S P) := by
  unfold wp_Mo_queued at h ⊢
  exact D2.p h
set_option maxHeartbeats 1000000 in
theorem dt_wp_Mo_history (S : GS) (p0 : Int32) (post : Int32 → GS → Prop) (h : wp_Mo_history S p0 post) : D2 post (fun P => wp_Mo_history S p0 P) := by
  unfold wp_Mo_history at h ⊢
  by_cases hc189 : p0 < (0 : Int32)
  · refine D2.t hc189 ?_
    replace h := h.1 hc189
    exact D2.p h
  refine D2.f hc189 ?_
  replace h := h.2 hc189
  by_cases hc190 : (31 : Int32) < p0
  · refine D2.t hc190 ?_
    replace h := h.1 hc190
    exact D2.p h
  refine D2.f hc190 ?_
  replace h := h.2 hc190
  by_cases hc191 : p0 < (S.1 3 0)
  · refine D2.t hc191 ?_
    replace h := h.1 hc191
    refine D2.a h.1 ?_
    replace h := h.2
    exact D2.p h
  refine D2.f hc191 ?_
  replace h := h.2 hc191
  exact D2.p h
