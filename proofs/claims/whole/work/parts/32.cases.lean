-- the law's cases
theorem kroom1 {a k d N : Nat} (h : a + d ≤ N) (hk : k ≤ d) : a + k ≤ N := by omega
theorem kroom2 {a j k d N : Nat} (h : a + d ≤ N) (hk : j + k ≤ d) : a + j + k ≤ N := by omega
theorem lg_same (f : Nat → Int64) (x : Int64) : lg_cmp (vp_updL f 0 x (0 : Int32).toNatClampNeg) x = 0 := by
  have e : vp_updL f 0 x (0 : Int32).toNatClampNeg = x := rfl
  rw [e]
  unfold lg_cmp
  rw [if_neg (show ¬ x > x from Int64.lt_irrefl), if_pos rfl]
def St_append (Sim : (Nat → Nat → Int32) → (Nat → Nat → Int32) → (Nat → Int64) → (Nat → Nat → Int32) → (Nat → Int64) → (Nat → Nat → Int32) → (Nat → Nat → Nat → Int32) → (Nat → Nat → Int32) → Prop) : Prop := ∀ (tx : Nat → Nat → Int32) (ps : Nat → Nat → Int32) (nm : Nat → Int64) (v : Nat → Nat → Int32) (vn : Nat → Int64) (hs : Nat → Nat → Int32) (ww : Nat → Nat → Nat → Int32) (z : Nat → Nat → Int32), Sim tx ps nm v vn hs ww z → ∀ x1 x2 x3 x4 x5 : Int32, ∃ (e : Nat) (r : Int32) (txR : Nat → Nat → Int32) (b : Int32) (zR : Nat → Nat → Int32), qX10_append tx ps nm v vn hs ww x1 x2 x3 x4 x5 = some (e, r, txR) ∧ qX11_append z x1 x2 x3 x4 x5 = some (b, zR) ∧ ((e = 0 ∧ zR 0 0 = 0 ∧ r = b) ∨ (e = 1 ∧ zR 0 0 = 1)) ∧ Sim txR ps nm v vn hs ww zR
def St_truncate (Sim : (Nat → Nat → Int32) → (Nat → Nat → Int32) → (Nat → Int64) → (Nat → Nat → Int32) → (Nat → Int64) → (Nat → Nat → Int32) → (Nat → Nat → Nat → Int32) → (Nat → Nat → Int32) → Prop) : Prop := ∀ (tx : Nat → Nat → Int32) (ps : Nat → Nat → Int32) (nm : Nat → Int64) (v : Nat → Nat → Int32) (vn : Nat → Int64) (hs : Nat → Nat → Int32) (ww : Nat → Nat → Nat → Int32) (z : Nat → Nat → Int32), Sim tx ps nm v vn hs ww z → ∀ x1 : Int32, ∃ (e : Nat) (r : Int32) (txR : Nat → Nat → Int32) (b : Int32) (zR : Nat → Nat → Int32), qX10_truncate tx ps nm v vn hs ww x1 = some (e, r, txR) ∧ qX11_truncate z x1 = some (b, zR) ∧ ((e = 0 ∧ zR 0 0 = 0 ∧ r = b) ∨ (e = 2 ∧ zR 0 0 = 1)) ∧ Sim txR ps nm v vn hs ww zR
def St_load (Sim : (Nat → Nat → Int32) → (Nat → Nat → Int32) → (Nat → Int64) → (Nat → Nat → Int32) → (Nat → Int64) → (Nat → Nat → Int32) → (Nat → Nat → Nat → Int32) → (Nat → Nat → Int32) → Prop) : Prop := ∀ (tx : Nat → Nat → Int32) (ps : Nat → Nat → Int32) (nm : Nat → Int64) (v : Nat → Nat → Int32) (vn : Nat → Int64) (hs : Nat → Nat → Int32) (ww : Nat → Nat → Nat → Int32) (z : Nat → Nat → Int32), Sim tx ps nm v vn hs ww z → ∃ (e : Nat) (r : Int32) (txR : Nat → Nat → Int32) (psR : Nat → Nat → Int32) (nmR : Nat → Int64) (vR : Nat → Nat → Int32) (vnR : Nat → Int64) (hsR : Nat → Nat → Int32) (wwR : Nat → Nat → Nat → Int32) (b : Int32) (zR : Nat → Nat → Int32), qX10_load tx ps nm v vn hs ww = some (e, r, txR, psR, nmR, vR, vnR, hsR, wwR) ∧ qX11_load z = some (b, zR) ∧ ((e = 0 ∧ zR 0 0 = 0 ∧ r = b) ∨ (e = 3 ∧ zR 0 0 = 1)) ∧ Sim txR psR nmR vR vnR hsR wwR zR
def St_errorCode (Sim : (Nat → Nat → Int32) → (Nat → Nat → Int32) → (Nat → Int64) → (Nat → Nat → Int32) → (Nat → Int64) → (Nat → Nat → Int32) → (Nat → Nat → Nat → Int32) → (Nat → Nat → Int32) → Prop) : Prop := ∀ (tx : Nat → Nat → Int32) (ps : Nat → Nat → Int32) (nm : Nat → Int64) (v : Nat → Nat → Int32) (vn : Nat → Int64) (hs : Nat → Nat → Int32) (ww : Nat → Nat → Nat → Int32) (z : Nat → Nat → Int32), Sim tx ps nm v vn hs ww z → ∃ (r : Int32) (b : Int32) (zR : Nat → Nat → Int32), qX10_errorCode tx ps nm v vn hs ww = some r ∧ qX11_errorCode z = some (b, zR) ∧ (r = b) ∧ Sim tx ps nm v vn hs ww zR
def St_errorPosition (Sim : (Nat → Nat → Int32) → (Nat → Nat → Int32) → (Nat → Int64) → (Nat → Nat → Int32) → (Nat → Int64) → (Nat → Nat → Int32) → (Nat → Nat → Nat → Int32) → (Nat → Nat → Int32) → Prop) : Prop := ∀ (tx : Nat → Nat → Int32) (ps : Nat → Nat → Int32) (nm : Nat → Int64) (v : Nat → Nat → Int32) (vn : Nat → Int64) (hs : Nat → Nat → Int32) (ww : Nat → Nat → Nat → Int32) (z : Nat → Nat → Int32), Sim tx ps nm v vn hs ww z → ∃ (r : Int32) (b : Int32) (zR : Nat → Nat → Int32), qX10_errorPosition tx ps nm v vn hs ww = some r ∧ qX11_errorPosition z = some (b, zR) ∧ (r = b) ∧ Sim tx ps nm v vn hs ww zR
def St_find (Sim : (Nat → Nat → Int32) → (Nat → Nat → Int32) → (Nat → Int64) → (Nat → Nat → Int32) → (Nat → Int64) → (Nat → Nat → Int32) → (Nat → Nat → Nat → Int32) → (Nat → Nat → Int32) → Prop) : Prop := ∀ (tx : Nat → Nat → Int32) (ps : Nat → Nat → Int32) (nm : Nat → Int64) (v : Nat → Nat → Int32) (vn : Nat → Int64) (hs : Nat → Nat → Int32) (ww : Nat → Nat → Nat → Int32) (z : Nat → Nat → Int32), Sim tx ps nm v vn hs ww z → ∃ (e : Nat) (r : Int32) (txR : Nat → Nat → Int32) (b : Int32) (zR : Nat → Nat → Int32), qX10_find tx ps nm v vn hs ww = some (e, r, txR) ∧ qX11_find z = some (b, zR) ∧ ((e = 0 ∧ zR 0 0 = 0 ∧ r = b) ∨ (e = 4 ∧ zR 0 0 = 1)) ∧ Sim txR ps nm v vn hs ww zR
def St_count (Sim : (Nat → Nat → Int32) → (Nat → Nat → Int32) → (Nat → Int64) → (Nat → Nat → Int32) → (Nat → Int64) → (Nat → Nat → Int32) → (Nat → Nat → Nat → Int32) → (Nat → Nat → Int32) → Prop) : Prop := ∀ (tx : Nat → Nat → Int32) (ps : Nat → Nat → Int32) (nm : Nat → Int64) (v : Nat → Nat → Int32) (vn : Nat → Int64) (hs : Nat → Nat → Int32) (ww : Nat → Nat → Nat → Int32) (z : Nat → Nat → Int32), Sim tx ps nm v vn hs ww z → ∀ x1 : Int32, ∃ (e : Nat) (r : Int32) (b : Int32) (zR : Nat → Nat → Int32), qX10_count tx ps nm v vn hs ww x1 = some (e, r) ∧ qX11_count z x1 = some (b, zR) ∧ ((e = 0 ∧ zR 0 0 = 0 ∧ r = b) ∨ (e = 3 ∧ zR 0 0 = 1)) ∧ Sim tx ps nm v vn hs ww zR
def St_outlet (Sim : (Nat → Nat → Int32) → (Nat → Nat → Int32) → (Nat → Int64) → (Nat → Nat → Int32) → (Nat → Int64) → (Nat → Nat → Int32) → (Nat → Nat → Nat → Int32) → (Nat → Nat → Int32) → Prop) : Prop := ∀ (tx : Nat → Nat → Int32) (ps : Nat → Nat → Int32) (nm : Nat → Int64) (v : Nat → Nat → Int32) (vn : Nat → Int64) (hs : Nat → Nat → Int32) (ww : Nat → Nat → Nat → Int32) (z : Nat → Nat → Int32), Sim tx ps nm v vn hs ww z → ∀ x1 x2 : Int32, ∃ (e : Nat) (r : Int32) (b : Int32) (zR : Nat → Nat → Int32), qX10_outlet tx ps nm v vn hs ww x1 x2 = some (e, r) ∧ qX11_outlet z x1 x2 = some (b, zR) ∧ ((e = 0 ∧ zR 0 0 = 0 ∧ r = b) ∨ (e = 2 ∧ zR 0 0 = 1) ∨ (e = 3 ∧ zR 0 0 = 2)) ∧ Sim tx ps nm v vn hs ww zR
def St_known (Sim : (Nat → Nat → Int32) → (Nat → Nat → Int32) → (Nat → Int64) → (Nat → Nat → Int32) → (Nat → Int64) → (Nat → Nat → Int32) → (Nat → Nat → Nat → Int32) → (Nat → Nat → Int32) → Prop) : Prop := ∀ (tx : Nat → Nat → Int32) (ps : Nat → Nat → Int32) (nm : Nat → Int64) (v : Nat → Nat → Int32) (vn : Nat → Int64) (hs : Nat → Nat → Int32) (ww : Nat → Nat → Nat → Int32) (z : Nat → Nat → Int32), Sim tx ps nm v vn hs ww z → ∀ x1 x2 : Int32, ∃ (e : Nat) (r : Int32) (b : Int32) (zR : Nat → Nat → Int32), qX10_known tx ps nm v vn hs ww x1 x2 = some (e, r) ∧ qX11_known z x1 x2 = some (b, zR) ∧ ((e = 0 ∧ zR 0 0 = 0 ∧ r = b) ∨ (e = 2 ∧ zR 0 0 = 1) ∨ (e = 3 ∧ zR 0 0 = 2)) ∧ Sim tx ps nm v vn hs ww zR
def St_needs (Sim : (Nat → Nat → Int32) → (Nat → Nat → Int32) → (Nat → Int64) → (Nat → Nat → Int32) → (Nat → Int64) → (Nat → Nat → Int32) → (Nat → Nat → Nat → Int32) → (Nat → Nat → Int32) → Prop) : Prop := ∀ (tx : Nat → Nat → Int32) (ps : Nat → Nat → Int32) (nm : Nat → Int64) (v : Nat → Nat → Int32) (vn : Nat → Int64) (hs : Nat → Nat → Int32) (ww : Nat → Nat → Nat → Int32) (z : Nat → Nat → Int32), Sim tx ps nm v vn hs ww z → ∀ x1 x2 : Int32, (x2 = 0 ∨ x2 = 1) → ∃ (e : Nat) (r : Int32) (b : Int32) (zR : Nat → Nat → Int32), qX10_needs tx ps nm v vn hs ww x1 x2 = some (e, r) ∧ qX11_needs z x1 x2 = some (b, zR) ∧ ((e = 0 ∧ zR 0 0 = 0 ∧ r = b) ∨ (e = 2 ∧ zR 0 0 = 1)) ∧ Sim tx ps nm v vn hs ww zR
def St_outletsWith (Sim : (Nat → Nat → Int32) → (Nat → Nat → Int32) → (Nat → Int64) → (Nat → Nat → Int32) → (Nat → Int64) → (Nat → Nat → Int32) → (Nat → Nat → Nat → Int32) → (Nat → Nat → Int32) → Prop) : Prop := ∀ (tx : Nat → Nat → Int32) (ps : Nat → Nat → Int32) (nm : Nat → Int64) (v : Nat → Nat → Int32) (vn : Nat → Int64) (hs : Nat → Nat → Int32) (ww : Nat → Nat → Nat → Int32) (z : Nat → Nat → Int32), Sim tx ps nm v vn hs ww z → ∀ x1 x2 : Int32, (x2 = 0 ∨ x2 = 1) → ∃ (e : Nat) (r : Int32) (b : Int32) (zR : Nat → Nat → Int32), qX10_outletsWith tx ps nm v vn hs ww x1 x2 = some (e, r) ∧ qX11_outletsWith z x1 x2 = some (b, zR) ∧ ((e = 0 ∧ zR 0 0 = 0 ∧ r = b) ∨ (e = 3 ∧ zR 0 0 = 1)) ∧ Sim tx ps nm v vn hs ww zR
def St_rights (Sim : (Nat → Nat → Int32) → (Nat → Nat → Int32) → (Nat → Int64) → (Nat → Nat → Int32) → (Nat → Int64) → (Nat → Nat → Int32) → (Nat → Nat → Nat → Int32) → (Nat → Nat → Int32) → Prop) : Prop := ∀ (tx : Nat → Nat → Int32) (ps : Nat → Nat → Int32) (nm : Nat → Int64) (v : Nat → Nat → Int32) (vn : Nat → Int64) (hs : Nat → Nat → Int32) (ww : Nat → Nat → Nat → Int32) (z : Nat → Nat → Int32), Sim tx ps nm v vn hs ww z → ∃ (r : Int32) (b : Int32) (zR : Nat → Nat → Int32), qX10_rights tx ps nm v vn hs ww = some r ∧ qX11_rights z = some (b, zR) ∧ (r = b) ∧ Sim tx ps nm v vn hs ww zR
def St_load_ (Sim : (Nat → Nat → Int32) → (Nat → Nat → Int32) → (Nat → Int64) → (Nat → Nat → Int32) → (Nat → Int64) → (Nat → Nat → Int32) → (Nat → Nat → Nat → Int32) → (Nat → Nat → Int32) → Prop) : Prop := ∀ (tx : Nat → Nat → Int32) (ps : Nat → Nat → Int32) (nm : Nat → Int64) (v : Nat → Nat → Int32) (vn : Nat → Int64) (hs : Nat → Nat → Int32) (ww : Nat → Nat → Nat → Int32) (z : Nat → Nat → Int32), Sim tx ps nm v vn hs ww z → ∀ x1 : Int32, ∃ (e : Nat) (r : Int32) (b : Int32) (zR : Nat → Nat → Int32), qX10_load_ tx ps nm v vn hs ww x1 = some (e, r) ∧ qX11_load_ z x1 = some (b, zR) ∧ ((e = 0 ∧ zR 0 0 = 0 ∧ r = b) ∨ (e = 3 ∧ zR 0 0 = 1)) ∧ Sim tx ps nm v vn hs ww zR
def St_strain (Sim : (Nat → Nat → Int32) → (Nat → Nat → Int32) → (Nat → Int64) → (Nat → Nat → Int32) → (Nat → Int64) → (Nat → Nat → Int32) → (Nat → Nat → Nat → Int32) → (Nat → Nat → Int32) → Prop) : Prop := ∀ (tx : Nat → Nat → Int32) (ps : Nat → Nat → Int32) (nm : Nat → Int64) (v : Nat → Nat → Int32) (vn : Nat → Int64) (hs : Nat → Nat → Int32) (ww : Nat → Nat → Nat → Int32) (z : Nat → Nat → Int32), Sim tx ps nm v vn hs ww z → ∃ (r : UInt64) (b : UInt64) (zR : Nat → Nat → Int32), qX10_strain tx ps nm v vn hs ww = some r ∧ qX11_strain z = some (b, zR) ∧ (r = b ∧ FP.dcmp r r = some .eq) ∧ Sim tx ps nm v vn hs ww zR
def St_message (Sim : (Nat → Nat → Int32) → (Nat → Nat → Int32) → (Nat → Int64) → (Nat → Nat → Int32) → (Nat → Int64) → (Nat → Nat → Int32) → (Nat → Nat → Nat → Int32) → (Nat → Nat → Int32) → Prop) : Prop := ∀ (tx : Nat → Nat → Int32) (ps : Nat → Nat → Int32) (nm : Nat → Int64) (v : Nat → Nat → Int32) (vn : Nat → Int64) (hs : Nat → Nat → Int32) (ww : Nat → Nat → Nat → Int32) (z : Nat → Nat → Int32), Sim tx ps nm v vn hs ww z → ∀ x1 x2 : Int32, ∃ (e : Nat) (r : Int32) (b : Int32) (zR : Nat → Nat → Int32), qX10_message tx ps nm v vn hs ww x1 x2 = some (e, r) ∧ qX11_message z x1 x2 = some (b, zR) ∧ ((e = 0 ∧ zR 0 0 = 0 ∧ r = b) ∨ (e = 2 ∧ zR 0 0 = 1) ∨ (e = 3 ∧ zR 0 0 = 2)) ∧ Sim tx ps nm v vn hs ww zR
def St_traffic (Sim : (Nat → Nat → Int32) → (Nat → Nat → Int32) → (Nat → Int64) → (Nat → Nat → Int32) → (Nat → Int64) → (Nat → Nat → Int32) → (Nat → Nat → Nat → Int32) → (Nat → Nat → Int32) → Prop) : Prop := ∀ (tx : Nat → Nat → Int32) (ps : Nat → Nat → Int32) (nm : Nat → Int64) (v : Nat → Nat → Int32) (vn : Nat → Int64) (hs : Nat → Nat → Int32) (ww : Nat → Nat → Nat → Int32) (z : Nat → Nat → Int32), Sim tx ps nm v vn hs ww z → ∀ x1 x2 : Int32, (x2 = 0 ∨ x2 = 1) → ∃ (e : Nat) (r : Int32) (b : Int32) (zR : Nat → Nat → Int32), qX10_traffic tx ps nm v vn hs ww x1 x2 = some (e, r) ∧ qX11_traffic z x1 x2 = some (b, zR) ∧ ((e = 0 ∧ zR 0 0 = 0 ∧ r = b) ∨ (e = 3 ∧ zR 0 0 = 1)) ∧ Sim tx ps nm v vn hs ww zR
def St_learned (Sim : (Nat → Nat → Int32) → (Nat → Nat → Int32) → (Nat → Int64) → (Nat → Nat → Int32) → (Nat → Int64) → (Nat → Nat → Int32) → (Nat → Nat → Nat → Int32) → (Nat → Nat → Int32) → Prop) : Prop := ∀ (tx : Nat → Nat → Int32) (ps : Nat → Nat → Int32) (nm : Nat → Int64) (v : Nat → Nat → Int32) (vn : Nat → Int64) (hs : Nat → Nat → Int32) (ww : Nat → Nat → Nat → Int32) (z : Nat → Nat → Int32), Sim tx ps nm v vn hs ww z → ∀ x1 : Int32, ∃ (e : Nat) (r : Int32) (b : Int32) (zR : Nat → Nat → Int32), qX10_learned tx ps nm v vn hs ww x1 = some (e, r) ∧ qX11_learned z x1 = some (b, zR) ∧ ((e = 0 ∧ zR 0 0 = 0 ∧ r = b) ∨ (e = 2 ∧ zR 0 0 = 1)) ∧ Sim tx ps nm v vn hs ww zR
def St_grants (Sim : (Nat → Nat → Int32) → (Nat → Nat → Int32) → (Nat → Int64) → (Nat → Nat → Int32) → (Nat → Int64) → (Nat → Nat → Int32) → (Nat → Nat → Nat → Int32) → (Nat → Nat → Int32) → Prop) : Prop := ∀ (tx : Nat → Nat → Int32) (ps : Nat → Nat → Int32) (nm : Nat → Int64) (v : Nat → Nat → Int32) (vn : Nat → Int64) (hs : Nat → Nat → Int32) (ww : Nat → Nat → Nat → Int32) (z : Nat → Nat → Int32), Sim tx ps nm v vn hs ww z → ∃ (r : Int32) (wwR : Nat → Nat → Nat → Int32) (b : Int32) (zR : Nat → Nat → Int32), qX10_grants tx ps nm v vn hs ww = some (r, wwR) ∧ qX11_grants z = some (b, zR) ∧ (r = b) ∧ Sim tx ps nm v vn hs wwR zR
def St_why (Sim : (Nat → Nat → Int32) → (Nat → Nat → Int32) → (Nat → Int64) → (Nat → Nat → Int32) → (Nat → Int64) → (Nat → Nat → Int32) → (Nat → Nat → Nat → Int32) → (Nat → Nat → Int32) → Prop) : Prop := ∀ (tx : Nat → Nat → Int32) (ps : Nat → Nat → Int32) (nm : Nat → Int64) (v : Nat → Nat → Int32) (vn : Nat → Int64) (hs : Nat → Nat → Int32) (ww : Nat → Nat → Nat → Int32) (z : Nat → Nat → Int32), Sim tx ps nm v vn hs ww z → ∀ x1 : Int32, ∃ (e : Nat) (r : Int32) (wwR : Nat → Nat → Nat → Int32) (b : Int32) (zR : Nat → Nat → Int32), qX10_why tx ps nm v vn hs ww x1 = some (e, r, wwR) ∧ qX11_why z x1 = some (b, zR) ∧ ((e = 0 ∧ zR 0 0 = 0 ∧ r = b) ∨ (e = 2 ∧ zR 0 0 = 1)) ∧ Sim tx ps nm v vn hs wwR zR
def St_runsIn (Sim : (Nat → Nat → Int32) → (Nat → Nat → Int32) → (Nat → Int64) → (Nat → Nat → Int32) → (Nat → Int64) → (Nat → Nat → Int32) → (Nat → Nat → Nat → Int32) → (Nat → Nat → Int32) → Prop) : Prop := ∀ (tx : Nat → Nat → Int32) (ps : Nat → Nat → Int32) (nm : Nat → Int64) (v : Nat → Nat → Int32) (vn : Nat → Int64) (hs : Nat → Nat → Int32) (ww : Nat → Nat → Nat → Int32) (z : Nat → Nat → Int32), Sim tx ps nm v vn hs ww z → ∀ x1 : Int32, ∃ (e : Nat) (r : Int32) (wwR : Nat → Nat → Nat → Int32) (b : Int32) (zR : Nat → Nat → Int32), qX10_runsIn tx ps nm v vn hs ww x1 = some (e, r, wwR) ∧ qX11_runsIn z x1 = some (b, zR) ∧ ((e = 0 ∧ zR 0 0 = 0 ∧ r = b) ∨ (e = 2 ∧ zR 0 0 = 1) ∨ (e = 4 ∧ zR 0 0 = 2)) ∧ Sim tx ps nm v vn hs wwR zR
def St_allIn (Sim : (Nat → Nat → Int32) → (Nat → Nat → Int32) → (Nat → Int64) → (Nat → Nat → Int32) → (Nat → Int64) → (Nat → Nat → Int32) → (Nat → Nat → Nat → Int32) → (Nat → Nat → Int32) → Prop) : Prop := ∀ (tx : Nat → Nat → Int32) (ps : Nat → Nat → Int32) (nm : Nat → Int64) (v : Nat → Nat → Int32) (vn : Nat → Int64) (hs : Nat → Nat → Int32) (ww : Nat → Nat → Nat → Int32) (z : Nat → Nat → Int32), Sim tx ps nm v vn hs ww z → ∀ x1 : Int32, ∃ (e : Nat) (r : Int32) (wwR : Nat → Nat → Nat → Int32) (b : Int32) (zR : Nat → Nat → Int32), qX10_allIn tx ps nm v vn hs ww x1 = some (e, r, wwR) ∧ qX11_allIn z x1 = some (b, zR) ∧ ((e = 0 ∧ zR 0 0 = 0 ∧ r = b) ∨ (e = 3 ∧ zR 0 0 = 1) ∨ (e = 4 ∧ zR 0 0 = 2)) ∧ Sim tx ps nm v vn hs wwR zR
def St_peakIn (Sim : (Nat → Nat → Int32) → (Nat → Nat → Int32) → (Nat → Int64) → (Nat → Nat → Int32) → (Nat → Int64) → (Nat → Nat → Int32) → (Nat → Nat → Nat → Int32) → (Nat → Nat → Int32) → Prop) : Prop := ∀ (tx : Nat → Nat → Int32) (ps : Nat → Nat → Int32) (nm : Nat → Int64) (v : Nat → Nat → Int32) (vn : Nat → Int64) (hs : Nat → Nat → Int32) (ww : Nat → Nat → Nat → Int32) (z : Nat → Nat → Int32), Sim tx ps nm v vn hs ww z → ∀ x1 x2 : Int32, ∃ (e : Nat) (r : Int32) (wwR : Nat → Nat → Nat → Int32) (b : Int32) (zR : Nat → Nat → Int32), qX10_peakIn tx ps nm v vn hs ww x1 x2 = some (e, r, wwR) ∧ qX11_peakIn z x1 x2 = some (b, zR) ∧ ((e = 0 ∧ zR 0 0 = 0 ∧ r = b) ∨ (e = 3 ∧ zR 0 0 = 1)) ∧ Sim tx ps nm v vn hs wwR zR
def St_sentIn (Sim : (Nat → Nat → Int32) → (Nat → Nat → Int32) → (Nat → Int64) → (Nat → Nat → Int32) → (Nat → Int64) → (Nat → Nat → Int32) → (Nat → Nat → Nat → Int32) → (Nat → Nat → Int32) → Prop) : Prop := ∀ (tx : Nat → Nat → Int32) (ps : Nat → Nat → Int32) (nm : Nat → Int64) (v : Nat → Nat → Int32) (vn : Nat → Int64) (hs : Nat → Nat → Int32) (ww : Nat → Nat → Nat → Int32) (z : Nat → Nat → Int32), Sim tx ps nm v vn hs ww z → ∀ x1 x2 : Int32, ∃ (e : Nat) (r : Int32) (wwR : Nat → Nat → Nat → Int32) (b : Int32) (zR : Nat → Nat → Int32), qX10_sentIn tx ps nm v vn hs ww x1 x2 = some (e, r, wwR) ∧ qX11_sentIn z x1 x2 = some (b, zR) ∧ ((e = 0 ∧ zR 0 0 = 0 ∧ r = b) ∨ (e = 3 ∧ zR 0 0 = 1)) ∧ Sim tx ps nm v vn hs wwR zR
def St_run (Sim : (Nat → Nat → Int32) → (Nat → Nat → Int32) → (Nat → Int64) → (Nat → Nat → Int32) → (Nat → Int64) → (Nat → Nat → Int32) → (Nat → Nat → Nat → Int32) → (Nat → Nat → Int32) → Prop) : Prop := ∀ (tx : Nat → Nat → Int32) (ps : Nat → Nat → Int32) (nm : Nat → Int64) (v : Nat → Nat → Int32) (vn : Nat → Int64) (hs : Nat → Nat → Int32) (ww : Nat → Nat → Nat → Int32) (z : Nat → Nat → Int32), Sim tx ps nm v vn hs ww z → ∀ x1 : Int32, ∃ (e : Nat) (r : Int32) (hsR : Nat → Nat → Int32) (wwR : Nat → Nat → Nat → Int32) (b : Int32) (zR : Nat → Nat → Int32), qX10_run tx ps nm v vn hs ww x1 = some (e, r, hsR, wwR) ∧ qX11_run z x1 = some (b, zR) ∧ ((e = 0 ∧ zR 0 0 = 0 ∧ r = b) ∨ (e = 3 ∧ zR 0 0 = 1) ∨ (e = 1 ∧ zR 0 0 = 2)) ∧ Sim tx ps nm v vn hsR wwR zR
def St_blackout (Sim : (Nat → Nat → Int32) → (Nat → Nat → Int32) → (Nat → Int64) → (Nat → Nat → Int32) → (Nat → Int64) → (Nat → Nat → Int32) → (Nat → Nat → Nat → Int32) → (Nat → Nat → Int32) → Prop) : Prop := ∀ (tx : Nat → Nat → Int32) (ps : Nat → Nat → Int32) (nm : Nat → Int64) (v : Nat → Nat → Int32) (vn : Nat → Int64) (hs : Nat → Nat → Int32) (ww : Nat → Nat → Nat → Int32) (z : Nat → Nat → Int32), Sim tx ps nm v vn hs ww z → ∀ x1 : Int32, ∃ (e : Nat) (r : Int32) (hsR : Nat → Nat → Int32) (wwR : Nat → Nat → Nat → Int32) (b : Int32) (zR : Nat → Nat → Int32), qX10_blackout tx ps nm v vn hs ww x1 = some (e, r, hsR, wwR) ∧ qX11_blackout z x1 = some (b, zR) ∧ ((e = 0 ∧ zR 0 0 = 0 ∧ r = b) ∨ (e = 3 ∧ zR 0 0 = 1)) ∧ Sim tx ps nm v vn hsR wwR zR
def St_want (Sim : (Nat → Nat → Int32) → (Nat → Nat → Int32) → (Nat → Int64) → (Nat → Nat → Int32) → (Nat → Int64) → (Nat → Nat → Int32) → (Nat → Nat → Nat → Int32) → (Nat → Nat → Int32) → Prop) : Prop := ∀ (tx : Nat → Nat → Int32) (ps : Nat → Nat → Int32) (nm : Nat → Int64) (v : Nat → Nat → Int32) (vn : Nat → Int64) (hs : Nat → Nat → Int32) (ww : Nat → Nat → Nat → Int32) (z : Nat → Nat → Int32), Sim tx ps nm v vn hs ww z → ∀ x1 x2 : Int32, (x2 = 0 ∨ x2 = 1) → ∃ (e : Nat) (r : Int32) (hsR : Nat → Nat → Int32) (wwR : Nat → Nat → Nat → Int32) (b : Int32) (zR : Nat → Nat → Int32), qX10_want tx ps nm v vn hs ww x1 x2 = some (e, r, hsR, wwR) ∧ qX11_want z x1 x2 = some (b, zR) ∧ ((e = 0 ∧ zR 0 0 = 0 ∧ r = b) ∨ (e = 2 ∧ zR 0 0 = 1)) ∧ Sim tx ps nm v vn hsR wwR zR
def St_setFuse (Sim : (Nat → Nat → Int32) → (Nat → Nat → Int32) → (Nat → Int64) → (Nat → Nat → Int32) → (Nat → Int64) → (Nat → Nat → Int32) → (Nat → Nat → Nat → Int32) → (Nat → Nat → Int32) → Prop) : Prop := ∀ (tx : Nat → Nat → Int32) (ps : Nat → Nat → Int32) (nm : Nat → Int64) (v : Nat → Nat → Int32) (vn : Nat → Int64) (hs : Nat → Nat → Int32) (ww : Nat → Nat → Nat → Int32) (z : Nat → Nat → Int32), Sim tx ps nm v vn hs ww z → ∀ x1 : Int32, ∃ (e : Nat) (r : Int32) (hsR : Nat → Nat → Int32) (wwR : Nat → Nat → Nat → Int32) (b : Int32) (zR : Nat → Nat → Int32), qX10_setFuse tx ps nm v vn hs ww x1 = some (e, r, hsR, wwR) ∧ qX11_setFuse z x1 = some (b, zR) ∧ ((e = 0 ∧ zR 0 0 = 0 ∧ r = b) ∨ (e = 3 ∧ zR 0 0 = 1)) ∧ Sim tx ps nm v vn hsR wwR zR
def St_setPriority (Sim : (Nat → Nat → Int32) → (Nat → Nat → Int32) → (Nat → Int64) → (Nat → Nat → Int32) → (Nat → Int64) → (Nat → Nat → Int32) → (Nat → Nat → Nat → Int32) → (Nat → Nat → Int32) → Prop) : Prop := ∀ (tx : Nat → Nat → Int32) (ps : Nat → Nat → Int32) (nm : Nat → Int64) (v : Nat → Nat → Int32) (vn : Nat → Int64) (hs : Nat → Nat → Int32) (ww : Nat → Nat → Nat → Int32) (z : Nat → Nat → Int32), Sim tx ps nm v vn hs ww z → ∀ x1 x2 : Int32, ∃ (e : Nat) (r : Int32) (hsR : Nat → Nat → Int32) (wwR : Nat → Nat → Nat → Int32) (b : Int32) (zR : Nat → Nat → Int32), qX10_setPriority tx ps nm v vn hs ww x1 x2 = some (e, r, hsR, wwR) ∧ qX11_setPriority z x1 x2 = some (b, zR) ∧ ((e = 0 ∧ zR 0 0 = 0 ∧ r = b) ∨ (e = 2 ∧ zR 0 0 = 1) ∨ (e = 3 ∧ zR 0 0 = 2)) ∧ Sim tx ps nm v vn hsR wwR zR
def St_forget (Sim : (Nat → Nat → Int32) → (Nat → Nat → Int32) → (Nat → Int64) → (Nat → Nat → Int32) → (Nat → Int64) → (Nat → Nat → Int32) → (Nat → Nat → Nat → Int32) → (Nat → Nat → Int32) → Prop) : Prop := ∀ (tx : Nat → Nat → Int32) (ps : Nat → Nat → Int32) (nm : Nat → Int64) (v : Nat → Nat → Int32) (vn : Nat → Int64) (hs : Nat → Nat → Int32) (ww : Nat → Nat → Nat → Int32) (z : Nat → Nat → Int32), Sim tx ps nm v vn hs ww z → ∃ (r : Int32) (hsR : Nat → Nat → Int32) (wwR : Nat → Nat → Nat → Int32) (b : Int32) (zR : Nat → Nat → Int32), qX10_forget tx ps nm v vn hs ww = some (r, hsR, wwR) ∧ qX11_forget z = some (b, zR) ∧ (r = b) ∧ Sim tx ps nm v vn hsR wwR zR
def St_undo (Sim : (Nat → Nat → Int32) → (Nat → Nat → Int32) → (Nat → Int64) → (Nat → Nat → Int32) → (Nat → Int64) → (Nat → Nat → Int32) → (Nat → Nat → Nat → Int32) → (Nat → Nat → Int32) → Prop) : Prop := ∀ (tx : Nat → Nat → Int32) (ps : Nat → Nat → Int32) (nm : Nat → Int64) (v : Nat → Nat → Int32) (vn : Nat → Int64) (hs : Nat → Nat → Int32) (ww : Nat → Nat → Nat → Int32) (z : Nat → Nat → Int32), Sim tx ps nm v vn hs ww z → ∃ (e : Nat) (r : Int32) (hsR : Nat → Nat → Int32) (wwR : Nat → Nat → Nat → Int32) (b : Int32) (zR : Nat → Nat → Int32), qX10_undo tx ps nm v vn hs ww = some (e, r, hsR, wwR) ∧ qX11_undo z = some (b, zR) ∧ ((e = 0 ∧ zR 0 0 = 0 ∧ r = b) ∨ (e = 1 ∧ zR 0 0 = 1)) ∧ Sim tx ps nm v vn hsR wwR zR
def St_save (Sim : (Nat → Nat → Int32) → (Nat → Nat → Int32) → (Nat → Int64) → (Nat → Nat → Int32) → (Nat → Int64) → (Nat → Nat → Int32) → (Nat → Nat → Nat → Int32) → (Nat → Nat → Int32) → Prop) : Prop := ∀ (tx : Nat → Nat → Int32) (ps : Nat → Nat → Int32) (nm : Nat → Int64) (v : Nat → Nat → Int32) (vn : Nat → Int64) (hs : Nat → Nat → Int32) (ww : Nat → Nat → Nat → Int32) (z : Nat → Nat → Int32), Sim tx ps nm v vn hs ww z → ∀ x1 : Int32, ∃ (e : Nat) (hsR : Nat → Nat → Int32) (wwR : Nat → Nat → Nat → Int32) (zR : Nat → Nat → Int32), qX10_save tx ps nm v vn hs ww x1 = some (e, hsR, wwR) ∧ qX11_save z x1 = some zR ∧ ((e = 0 ∧ zR 0 0 = 0 ∧ True) ∨ (e = 2 ∧ zR 0 0 = 1)) ∧ Sim tx ps nm v vn hsR wwR zR
def St_restore (Sim : (Nat → Nat → Int32) → (Nat → Nat → Int32) → (Nat → Int64) → (Nat → Nat → Int32) → (Nat → Int64) → (Nat → Nat → Int32) → (Nat → Nat → Nat → Int32) → (Nat → Nat → Int32) → Prop) : Prop := ∀ (tx : Nat → Nat → Int32) (ps : Nat → Nat → Int32) (nm : Nat → Int64) (v : Nat → Nat → Int32) (vn : Nat → Int64) (hs : Nat → Nat → Int32) (ww : Nat → Nat → Nat → Int32) (z : Nat → Nat → Int32), Sim tx ps nm v vn hs ww z → ∀ x1 : Int32, ∃ (e : Nat) (hsR : Nat → Nat → Int32) (wwR : Nat → Nat → Nat → Int32) (zR : Nat → Nat → Int32), qX10_restore tx ps nm v vn hs ww x1 = some (e, hsR, wwR) ∧ qX11_restore z x1 = some zR ∧ ((e = 0 ∧ zR 0 0 = 0 ∧ True) ∨ (e = 2 ∧ zR 0 0 = 1) ∨ (e = 4 ∧ zR 0 0 = 2)) ∧ Sim tx ps nm v vn hsR wwR zR
section LC
variable {p : Program} {l : Launch} {e : Env} {s : State} {m : MethodId} {args : Array Value} {below : List Frame} {meth : Method} {c : Code} {H : Heap} {locs : List Loc} {cells slots : Nat} {Q : State → Prop} {ls : Array Slot}
variable {D : va_G} {T : Nat → ClassId} {A : Nat → Prop} {aF aR aD aP aH : Nat → Nat} {aW : Nat → Nat → Nat} {aO : Nat} {aM : Nat → Nat} {tx ps v hs : Nat → Nat → Int32} {nm vn : Nat → Int64} {ww : Nat → Nat → Nat → Int32} {out : Nat → Int64} {z : Nat → Nat → Int32} {b L : Nat} {xs : Nat → Int32}
set_option maxHeartbeats 8000000 in
set_option maxRecDepth 100000 in
theorem lc_append {Sim : (Nat → Nat → Int32) → (Nat → Nat → Int32) → (Nat → Int64) → (Nat → Nat → Int32) → (Nat → Int64) → (Nat → Nat → Int32) → (Nat → Nat → Nat → Int32) → (Nat → Nat → Int32) → Prop} (Hs : St_append Sim) (hst : l.stackTraces = false) (F : CallFix p m c code 9 s args kAll RL) (hAL : ∀ w ∈ kAL, w.before args s = true) (hr : meth.sig.returnType = ret) (hlk : meth.locks = false) (hX : va_X b L xs s s.heap) (hbl : b < s.heap.size) (hbA : ¬ A b) {x4 : Int32} (hi1 : vp_in (x4 + 1) L) (hi2 : vp_in (x4 + 2) L) (hi3 : vp_in (x4 + 3) L) (hi4 : vp_in (x4 + 4) L) (hi5 : vp_in (x4 + 5) L) (hcs : cells + 2 ≤ 601024 ∧ slots + 12 ≤ 7293034) (hS : Sim tx ps nm v vn hs ww z)
    (kk : ∀ (tx : Nat → Nat → Int32) (ps : Nat → Nat → Int32) (nm : Nat → Int64) (v : Nat → Nat → Int32) (vn : Nat → Int64) (hs : Nat → Nat → Int32) (ww : Nat → Nat → Nat → Int32) (out : Nat → Int64) (z : Nat → Nat → Int32) (H : Heap) (locs : List Loc) (ls : Array Slot), Sim tx ps nm v vn hs ww z → Rg D T A s (gL T aF aR aD aP aH aW aO aM tx ps nm v vn hs ww out z) H locs → lv_has ls 9 [(4, .int x4), (3, .ref aO), (2, .ref (aM 0)), (1, .ref (aF 0)), (0, .ref b)] → W p l e room_1 s m args below meth c H locs (cells + 1) (slots + 6) Q (F0 m 1909 ls []))
    (G : Rg D T A s (gL T aF aR aD aP aH aW aO aM tx ps nm v vn hs ww out z) H locs) (hl : lv_has ls 9 [(4, .int x4), (3, .ref aO), (2, .ref (aM 0)), (1, .ref (aF 0)), (0, .ref b)]) : W p l e room_1 s m args below meth c H locs cells slots Q (F0 m 184 ls []) := by
  refine lv_aload_n F.1 F.2.1 dL_law_184 rfl (lv_at hl 3 rfl) ?_
  refine lv_aload_n F.1 F.2.1 dL_law_185 rfl (lv_at hl 4 rfl) ?_
  refine lv_iload F.1 F.2.1 dL_law_186 (lv_at hl 0 rfl) ?_
  refine lv_iconst (v := 1) F.1 F.2.1 dL_law_188 (by decide) ?_
  refine lv_iadd F.1 F.2.1 dL_law_189 ?_
  refine va_sld F.1 F.2.1 hX hbl hbA G.2.2.2.1 hi1 dL_law_190 ?_
  refine lv_aload_n F.1 F.2.1 dL_law_191 rfl (lv_at hl 4 rfl) ?_
  refine lv_iload F.1 F.2.1 dL_law_192 (lv_at hl 0 rfl) ?_
  refine lv_iconst (v := 2) F.1 F.2.1 dL_law_194 (by decide) ?_
  refine lv_iadd F.1 F.2.1 dL_law_195 ?_
  refine va_sld F.1 F.2.1 hX hbl hbA G.2.2.2.1 hi2 dL_law_196 ?_
  refine lv_aload_n F.1 F.2.1 dL_law_197 rfl (lv_at hl 4 rfl) ?_
  refine lv_iload F.1 F.2.1 dL_law_198 (lv_at hl 0 rfl) ?_
  refine lv_iconst (v := 3) F.1 F.2.1 dL_law_200 (by decide) ?_
  refine lv_iadd F.1 F.2.1 dL_law_201 ?_
  refine va_sld F.1 F.2.1 hX hbl hbA G.2.2.2.1 hi3 dL_law_202 ?_
  refine lv_aload_n F.1 F.2.1 dL_law_203 rfl (lv_at hl 4 rfl) ?_
  refine lv_iload F.1 F.2.1 dL_law_204 (lv_at hl 0 rfl) ?_
  refine lv_iconst (v := 4) F.1 F.2.1 dL_law_206 (by decide) ?_
  refine lv_iadd F.1 F.2.1 dL_law_207 ?_
  refine va_sld F.1 F.2.1 hX hbl hbA G.2.2.2.1 hi4 dL_law_208 ?_
  refine lv_aload_n F.1 F.2.1 dL_law_209 rfl (lv_at hl 4 rfl) ?_
  refine lv_iload F.1 F.2.1 dL_law_210 (lv_at hl 0 rfl) ?_
  refine lv_iconst (v := 5) F.1 F.2.1 dL_law_212 (by decide) ?_
  refine lv_iadd F.1 F.2.1 dL_law_213 ?_
  refine va_sld F.1 F.2.1 hX hbl hbA G.2.2.2.1 hi5 dL_law_214 ?_
  refine lv_aload_n F.1 F.2.1 dL_law_215 rfl (lv_at hl 1 rfl) ?_
  obtain ⟨e, r, txR, b', zR, h1, h2, hd, hSR⟩ := Hs tx ps nm v vn hs ww z hS (xs (x4 + 1).toNatClampNeg) (xs (x4 + 2).toNatClampNeg) (xs (x4 + 3).toNatClampNeg) (xs (x4 + 4).toNatClampNeg) (xs (x4 + 5).toNatClampNeg)
  rcases hd with ⟨rfl, hz, rfl⟩ | ⟨rfl, hz⟩
  · have hthr : zR 0 0 = 0 := hz
    refine kl_callSW (rv := some (.int 0)) (Wc := gO T aF aR aD aP aH aW aO tx ps nm v vn hs ww out) (W2 := gO T aF aR aD aP aH aW aO txR ps nm v vn hs ww (vp_updL out 0 r.toInt64)) (Wn := gL T aF aR aD aP aH aW aO aM txR ps nm v vn hs ww (vp_updL out 0 r.toInt64) z) (As := [.ref (aF 0), .int (xs (x4 + 1).toNatClampNeg), .int (xs (x4 + 2).toNatClampNeg), .int (xs (x4 + 3).toNatClampNeg), .int (xs (x4 + 4).toNatClampNeg), .int (xs (x4 + 5).toNatClampNeg), .ref aO]) (rest := []) F G (mL_append l hst D T aF aR aD aP aH aW aO tx ps nm v vn hs ww out (xs (x4 + 1).toNatClampNeg) (xs (x4 + 2).toNatClampNeg) (xs (x4 + 3).toNatClampNeg) (xs (x4 + 4).toNatClampNeg) (xs (x4 + 5).toNatClampNeg) (k := 0) (outR := (vp_updL out 0 r.toInt64)) h1 (Or.inl ⟨rfl, rfl, rfl⟩)) (vx_cwSW 7 hAL (kgL_c kLl82 (kgL_c kLl83 (kgL_c kLl84 (kgL_c kLl85 kgL_a)))) rfl rfl rfl (by decide +kernel) ⟨Nat.le_of_ble_eq_true rfl, Nat.le_of_ble_eq_true rfl⟩) (kCut_LO G) rfl hl.1 rfl (Nat.le_of_ble_eq_true rfl) dL_law_216 ⟨kroom1 hcs.1 (Nat.le_of_ble_eq_true rfl), kroom1 hcs.2 (Nat.le_of_ble_eq_true rfl)⟩ (cN := cells + 1) (sN := slots + 6) ⟨rfl, rfl⟩ (fun H locs G => ?_)
    have hcmp : lg_cmp ((vp_updL out 0 r.toInt64) (0 : Int32).toNatClampNeg) r.toInt64 = 0 := lg_same _ _
    refine lv_istore (lv' := [(5, .int 0), (4, .int x4), (3, .ref aO), (2, .ref (aM 0)), (1, .ref (aF 0)), (0, .ref b)]) F.1 F.2.1 dL_law_219 hl (by decide) rfl (fun ls hl => ?_)
    refine lv_aload_n F.1 F.2.1 dL_law_221 rfl (lv_at hl 3 rfl) ?_
    refine lv_aload_n F.1 F.2.1 dL_law_222 rfl (lv_at hl 5 rfl) ?_
    refine lv_iload F.1 F.2.1 dL_law_223 (lv_at hl 1 rfl) ?_
    refine lv_iconst (v := 1) F.1 F.2.1 dL_law_225 (by decide) ?_
    refine lv_iadd F.1 F.2.1 dL_law_226 ?_
    refine va_sld F.1 F.2.1 hX hbl hbA G.2.2.2.1 hi1 dL_law_227 ?_
    refine lv_aload_n F.1 F.2.1 dL_law_228 rfl (lv_at hl 5 rfl) ?_
    refine lv_iload F.1 F.2.1 dL_law_229 (lv_at hl 1 rfl) ?_
    refine lv_iconst (v := 2) F.1 F.2.1 dL_law_231 (by decide) ?_
    refine lv_iadd F.1 F.2.1 dL_law_232 ?_
    refine va_sld F.1 F.2.1 hX hbl hbA G.2.2.2.1 hi2 dL_law_233 ?_
    refine lv_aload_n F.1 F.2.1 dL_law_234 rfl (lv_at hl 5 rfl) ?_
    refine lv_iload F.1 F.2.1 dL_law_235 (lv_at hl 1 rfl) ?_
    refine lv_iconst (v := 3) F.1 F.2.1 dL_law_237 (by decide) ?_
    refine lv_iadd F.1 F.2.1 dL_law_238 ?_
    refine va_sld F.1 F.2.1 hX hbl hbA G.2.2.2.1 hi3 dL_law_239 ?_
    refine lv_aload_n F.1 F.2.1 dL_law_240 rfl (lv_at hl 5 rfl) ?_
    refine lv_iload F.1 F.2.1 dL_law_241 (lv_at hl 1 rfl) ?_
    refine lv_iconst (v := 4) F.1 F.2.1 dL_law_243 (by decide) ?_
    refine lv_iadd F.1 F.2.1 dL_law_244 ?_
    refine va_sld F.1 F.2.1 hX hbl hbA G.2.2.2.1 hi4 dL_law_245 ?_
    refine lv_aload_n F.1 F.2.1 dL_law_246 rfl (lv_at hl 5 rfl) ?_
    refine lv_iload F.1 F.2.1 dL_law_247 (lv_at hl 1 rfl) ?_
    refine lv_iconst (v := 5) F.1 F.2.1 dL_law_249 (by decide) ?_
    refine lv_iadd F.1 F.2.1 dL_law_250 ?_
    refine va_sld F.1 F.2.1 hX hbl hbA G.2.2.2.1 hi5 dL_law_251 ?_
    refine k_callVR (rv := _) (Wc := gM T aM z) (W2 := gM T aM zR) (Wn := gL T aF aR aD aP aH aW aO aM txR ps nm v vn hs ww (vp_updL out 0 r.toInt64) zR) (As := [.int (xs (x4 + 1).toNatClampNeg), .int (xs (x4 + 2).toNatClampNeg), .int (xs (x4 + 3).toNatClampNeg), .int (xs (x4 + 4).toNatClampNeg), .int (xs (x4 + 5).toNatClampNeg)]) (rest := []) F G (mX11_append l D T aM z (xs (x4 + 1).toNatClampNeg) (xs (x4 + 2).toNatClampNeg) (xs (x4 + 3).toNatClampNeg) (xs (x4 + 4).toNatClampNeg) (xs (x4 + 5).toNatClampNeg) h2) (cwV 5 hAL (kgL_c kLl86 (kgL_c kLl87 (kgL_c kLl88 (kgL_c (kA kl788) (kgL_c (kA kl807) kgL_k))))) rfl rfl rfl (by decide +kernel) ⟨Nat.le_of_ble_eq_true rfl, Nat.le_of_ble_eq_true rfl⟩) (kg_recv G 0 0 (by decide) rfl (q := (RX11, TX11, 35)) rfl) (kCut_LM G) rfl hl.1 rfl (Nat.le_of_ble_eq_true rfl) dL_law_252 ⟨kroom2 hcs.1 (Nat.le_of_ble_eq_true rfl), kroom2 hcs.2 (Nat.le_of_ble_eq_true rfl)⟩ (cN := cells + 1) (sN := slots + 6) ⟨rfl, rfl⟩ (fun H locs G => ?_)
    have hS := hSR
    refine lv_istore (lv' := [(6, .int r), (5, .int 0), (4, .int x4), (3, .ref aO), (2, .ref (aM 0)), (1, .ref (aF 0)), (0, .ref b)]) F.1 F.2.1 dL_law_255 hl (by decide) rfl (fun ls hl => ?_)
    refine lv_aload_n F.1 F.2.1 dL_law_257 rfl (lv_at hl 4 rfl) ?_
    refine k_callVR (rv := (some (.int (zR 0 0)))) (Wc := gM T aM zR) (W2 := gM T aM zR) (Wn := gL T aF aR aD aP aH aW aO aM txR ps nm v vn hs ww (vp_updL out 0 r.toInt64) zR) (As := []) (rest := []) F G (mX11_thrown l D T aM zR rfl) (cwV 0 hAL (kgL_c kLl89 (kgL_c kLl90 (kgL_c kLl91 (kgL_c (kA kl788) (kgL_c (kA kl803) kgL_k))))) rfl rfl rfl (by decide +kernel) ⟨Nat.le_of_ble_eq_true rfl, Nat.le_of_ble_eq_true rfl⟩) (kg_recv G 0 0 (by decide) rfl (q := (RX11, TX11, 35)) rfl) (kCut_LM G) rfl hl.1 rfl (Nat.le_of_ble_eq_true rfl) dL_law_258 ⟨kroom2 hcs.1 (Nat.le_of_ble_eq_true rfl), kroom2 hcs.2 (Nat.le_of_ble_eq_true rfl)⟩ (cN := cells + 1) (sN := slots + 6) ⟨rfl, rfl⟩ (fun H locs G => ?_)
    refine lv_iload F.1 F.2.1 dL_law_261 (lv_at hl 1 rfl) ?_
    refine lv_icmp_eq (tgt := 268) F.1 F.2.1 dL_law_263 (by decide) (fun c => ?_) (fun c => absurd hthr c)
    refine lv_iload F.1 F.2.1 dL_law_268 (lv_at hl 1 rfl) ?_
    refine lv_if_ne (tgt := 285) F.1 F.2.1 dL_law_270 (by decide) (fun c => absurd (by decide) c) (fun c => ?_)
    refine lv_aload_n F.1 F.2.1 dL_law_273 rfl (lv_at hl 3 rfl) ?_
    refine lv_iconst (v := 0) F.1 F.2.1 dL_law_274 (by decide) ?_
    refine kg_lald F G 1 0 (by decide) rfl (i := 0) (kin (by decide +kernel)) dL_law_275 ?_
    refine lv_iload F.1 F.2.1 dL_law_276 (lv_at hl 0 rfl) ?_
    refine lv_i2l (v := r.toInt64) F.1 F.2.1 dL_law_278 rfl ?_
    refine W.lcmp F.1 F.2.1 dL_law_279 ?_
    refine lv_if_eq (tgt := 285) F.1 F.2.1 dL_law_280 (by decide) (fun c => ?_) (fun c => absurd hcmp c)
    refine lv_goto (tgt := 1909) F.1 F.2.1 dL_law_285 (by decide) ?_
    exact kk txR ps nm v vn hs ww (vp_updL out 0 r.toInt64) zR _ _ _ hS G (lv_sub hl [2, 3, 4, 5, 6] rfl)
  · have hthr : zR 0 0 = 1 := hz
    refine kl_callSW (rv := some (.int 1)) (Wc := gO T aF aR aD aP aH aW aO tx ps nm v vn hs ww out) (W2 := gO T aF aR aD aP aH aW aO txR ps nm v vn hs ww out) (Wn := gL T aF aR aD aP aH aW aO aM txR ps nm v vn hs ww out z) (As := [.ref (aF 0), .int (xs (x4 + 1).toNatClampNeg), .int (xs (x4 + 2).toNatClampNeg), .int (xs (x4 + 3).toNatClampNeg), .int (xs (x4 + 4).toNatClampNeg), .int (xs (x4 + 5).toNatClampNeg), .ref aO]) (rest := []) F G (mL_append l hst D T aF aR aD aP aH aW aO tx ps nm v vn hs ww out (xs (x4 + 1).toNatClampNeg) (xs (x4 + 2).toNatClampNeg) (xs (x4 + 3).toNatClampNeg) (xs (x4 + 4).toNatClampNeg) (xs (x4 + 5).toNatClampNeg) (k := 1) (outR := out) h1 (Or.inr ⟨rfl, rfl, rfl⟩)) (vx_cwSW 7 hAL (kgL_c kLl82 (kgL_c kLl83 (kgL_c kLl84 (kgL_c kLl85 kgL_a)))) rfl rfl rfl (by decide +kernel) ⟨Nat.le_of_ble_eq_true rfl, Nat.le_of_ble_eq_true rfl⟩) (kCut_LO G) rfl hl.1 rfl (Nat.le_of_ble_eq_true rfl) dL_law_216 ⟨kroom1 hcs.1 (Nat.le_of_ble_eq_true rfl), kroom1 hcs.2 (Nat.le_of_ble_eq_true rfl)⟩ (cN := cells + 1) (sN := slots + 6) ⟨rfl, rfl⟩ (fun H locs G => ?_)
    refine lv_istore (lv' := [(5, .int 1), (4, .int x4), (3, .ref aO), (2, .ref (aM 0)), (1, .ref (aF 0)), (0, .ref b)]) F.1 F.2.1 dL_law_219 hl (by decide) rfl (fun ls hl => ?_)
    refine lv_aload_n F.1 F.2.1 dL_law_221 rfl (lv_at hl 3 rfl) ?_
    refine lv_aload_n F.1 F.2.1 dL_law_222 rfl (lv_at hl 5 rfl) ?_
    refine lv_iload F.1 F.2.1 dL_law_223 (lv_at hl 1 rfl) ?_
    refine lv_iconst (v := 1) F.1 F.2.1 dL_law_225 (by decide) ?_
    refine lv_iadd F.1 F.2.1 dL_law_226 ?_
    refine va_sld F.1 F.2.1 hX hbl hbA G.2.2.2.1 hi1 dL_law_227 ?_
    refine lv_aload_n F.1 F.2.1 dL_law_228 rfl (lv_at hl 5 rfl) ?_
    refine lv_iload F.1 F.2.1 dL_law_229 (lv_at hl 1 rfl) ?_
    refine lv_iconst (v := 2) F.1 F.2.1 dL_law_231 (by decide) ?_
    refine lv_iadd F.1 F.2.1 dL_law_232 ?_
    refine va_sld F.1 F.2.1 hX hbl hbA G.2.2.2.1 hi2 dL_law_233 ?_
    refine lv_aload_n F.1 F.2.1 dL_law_234 rfl (lv_at hl 5 rfl) ?_
    refine lv_iload F.1 F.2.1 dL_law_235 (lv_at hl 1 rfl) ?_
    refine lv_iconst (v := 3) F.1 F.2.1 dL_law_237 (by decide) ?_
    refine lv_iadd F.1 F.2.1 dL_law_238 ?_
    refine va_sld F.1 F.2.1 hX hbl hbA G.2.2.2.1 hi3 dL_law_239 ?_
    refine lv_aload_n F.1 F.2.1 dL_law_240 rfl (lv_at hl 5 rfl) ?_
    refine lv_iload F.1 F.2.1 dL_law_241 (lv_at hl 1 rfl) ?_
    refine lv_iconst (v := 4) F.1 F.2.1 dL_law_243 (by decide) ?_
    refine lv_iadd F.1 F.2.1 dL_law_244 ?_
    refine va_sld F.1 F.2.1 hX hbl hbA G.2.2.2.1 hi4 dL_law_245 ?_
    refine lv_aload_n F.1 F.2.1 dL_law_246 rfl (lv_at hl 5 rfl) ?_
    refine lv_iload F.1 F.2.1 dL_law_247 (lv_at hl 1 rfl) ?_
    refine lv_iconst (v := 5) F.1 F.2.1 dL_law_249 (by decide) ?_
    refine lv_iadd F.1 F.2.1 dL_law_250 ?_
    refine va_sld F.1 F.2.1 hX hbl hbA G.2.2.2.1 hi5 dL_law_251 ?_
    refine k_callVR (rv := _) (Wc := gM T aM z) (W2 := gM T aM zR) (Wn := gL T aF aR aD aP aH aW aO aM txR ps nm v vn hs ww out zR) (As := [.int (xs (x4 + 1).toNatClampNeg), .int (xs (x4 + 2).toNatClampNeg), .int (xs (x4 + 3).toNatClampNeg), .int (xs (x4 + 4).toNatClampNeg), .int (xs (x4 + 5).toNatClampNeg)]) (rest := []) F G (mX11_append l D T aM z (xs (x4 + 1).toNatClampNeg) (xs (x4 + 2).toNatClampNeg) (xs (x4 + 3).toNatClampNeg) (xs (x4 + 4).toNatClampNeg) (xs (x4 + 5).toNatClampNeg) h2) (cwV 5 hAL (kgL_c kLl86 (kgL_c kLl87 (kgL_c kLl88 (kgL_c (kA kl788) (kgL_c (kA kl807) kgL_k))))) rfl rfl rfl (by decide +kernel) ⟨Nat.le_of_ble_eq_true rfl, Nat.le_of_ble_eq_true rfl⟩) (kg_recv G 0 0 (by decide) rfl (q := (RX11, TX11, 35)) rfl) (kCut_LM G) rfl hl.1 rfl (Nat.le_of_ble_eq_true rfl) dL_law_252 ⟨kroom2 hcs.1 (Nat.le_of_ble_eq_true rfl), kroom2 hcs.2 (Nat.le_of_ble_eq_true rfl)⟩ (cN := cells + 1) (sN := slots + 6) ⟨rfl, rfl⟩ (fun H locs G => ?_)
    have hS := hSR
    refine lv_istore (lv' := [(6, .int b'), (5, .int 1), (4, .int x4), (3, .ref aO), (2, .ref (aM 0)), (1, .ref (aF 0)), (0, .ref b)]) F.1 F.2.1 dL_law_255 hl (by decide) rfl (fun ls hl => ?_)
    refine lv_aload_n F.1 F.2.1 dL_law_257 rfl (lv_at hl 4 rfl) ?_
    refine k_callVR (rv := (some (.int (zR 0 0)))) (Wc := gM T aM zR) (W2 := gM T aM zR) (Wn := gL T aF aR aD aP aH aW aO aM txR ps nm v vn hs ww out zR) (As := []) (rest := []) F G (mX11_thrown l D T aM zR rfl) (cwV 0 hAL (kgL_c kLl89 (kgL_c kLl90 (kgL_c kLl91 (kgL_c (kA kl788) (kgL_c (kA kl803) kgL_k))))) rfl rfl rfl (by decide +kernel) ⟨Nat.le_of_ble_eq_true rfl, Nat.le_of_ble_eq_true rfl⟩) (kg_recv G 0 0 (by decide) rfl (q := (RX11, TX11, 35)) rfl) (kCut_LM G) rfl hl.1 rfl (Nat.le_of_ble_eq_true rfl) dL_law_258 ⟨kroom2 hcs.1 (Nat.le_of_ble_eq_true rfl), kroom2 hcs.2 (Nat.le_of_ble_eq_true rfl)⟩ (cN := cells + 1) (sN := slots + 6) ⟨rfl, rfl⟩ (fun H locs G => ?_)
    refine lv_iload F.1 F.2.1 dL_law_261 (lv_at hl 1 rfl) ?_
    refine lv_icmp_eq (tgt := 268) F.1 F.2.1 dL_law_263 (by decide) (fun c => ?_) (fun c => absurd hthr c)
    refine lv_iload F.1 F.2.1 dL_law_268 (lv_at hl 1 rfl) ?_
    refine lv_if_ne (tgt := 285) F.1 F.2.1 dL_law_270 (by decide) (fun c => ?_) (fun c => absurd c (by decide))
    refine lv_goto (tgt := 1909) F.1 F.2.1 dL_law_285 (by decide) ?_
    exact kk txR ps nm v vn hs ww out zR _ _ _ hS G (lv_sub hl [2, 3, 4, 5, 6] rfl)
set_option maxHeartbeats 8000000 in
set_option maxRecDepth 100000 in
theorem lc_truncate {Sim : (Nat → Nat → Int32) → (Nat → Nat → Int32) → (Nat → Int64) → (Nat → Nat → Int32) → (Nat → Int64) → (Nat → Nat → Int32) → (Nat → Nat → Nat → Int32) → (Nat → Nat → Int32) → Prop} (Hs : St_truncate Sim) (hst : l.stackTraces = false) (F : CallFix p m c code 9 s args kAll RL) (hAL : ∀ w ∈ kAL, w.before args s = true) (hr : meth.sig.returnType = ret) (hlk : meth.locks = false) (hX : va_X b L xs s s.heap) (hbl : b < s.heap.size) (hbA : ¬ A b) {x4 : Int32} (hi1 : vp_in (x4 + 1) L) (hi2 : vp_in (x4 + 2) L) (hi3 : vp_in (x4 + 3) L) (hi4 : vp_in (x4 + 4) L) (hi5 : vp_in (x4 + 5) L) (hcs : cells + 2 ≤ 601024 ∧ slots + 12 ≤ 7293034) (hS : Sim tx ps nm v vn hs ww z)
    (kk : ∀ (tx : Nat → Nat → Int32) (ps : Nat → Nat → Int32) (nm : Nat → Int64) (v : Nat → Nat → Int32) (vn : Nat → Int64) (hs : Nat → Nat → Int32) (ww : Nat → Nat → Nat → Int32) (out : Nat → Int64) (z : Nat → Nat → Int32) (H : Heap) (locs : List Loc) (ls : Array Slot), Sim tx ps nm v vn hs ww z → Rg D T A s (gL T aF aR aD aP aH aW aO aM tx ps nm v vn hs ww out z) H locs → lv_has ls 9 [(4, .int x4), (3, .ref aO), (2, .ref (aM 0)), (1, .ref (aF 0)), (0, .ref b)] → W p l e room_1 s m args below meth c H locs (cells + 1) (slots + 6) Q (F0 m 1909 ls []))
    (G : Rg D T A s (gL T aF aR aD aP aH aW aO aM tx ps nm v vn hs ww out z) H locs) (hl : lv_has ls 9 [(4, .int x4), (3, .ref aO), (2, .ref (aM 0)), (1, .ref (aF 0)), (0, .ref b)]) : W p l e room_1 s m args below meth c H locs cells slots Q (F0 m 288 ls []) := by
  refine lv_aload_n F.1 F.2.1 dL_law_288 rfl (lv_at hl 3 rfl) ?_
  refine lv_aload_n F.1 F.2.1 dL_law_289 rfl (lv_at hl 4 rfl) ?_
  refine lv_iload F.1 F.2.1 dL_law_290 (lv_at hl 0 rfl) ?_
  refine lv_iconst (v := 1) F.1 F.2.1 dL_law_292 (by decide) ?_
  refine lv_iadd F.1 F.2.1 dL_law_293 ?_
  refine va_sld F.1 F.2.1 hX hbl hbA G.2.2.2.1 hi1 dL_law_294 ?_
  refine lv_aload_n F.1 F.2.1 dL_law_295 rfl (lv_at hl 1 rfl) ?_
  obtain ⟨e, r, txR, b', zR, h1, h2, hd, hSR⟩ := Hs tx ps nm v vn hs ww z hS (xs (x4 + 1).toNatClampNeg)
  rcases hd with ⟨rfl, hz, rfl⟩ | ⟨rfl, hz⟩
  · have hthr : zR 0 0 = 0 := hz
    refine kl_callSW (rv := some (.int 0)) (Wc := gO T aF aR aD aP aH aW aO tx ps nm v vn hs ww out) (W2 := gO T aF aR aD aP aH aW aO txR ps nm v vn hs ww (vp_updL out 0 r.toInt64)) (Wn := gL T aF aR aD aP aH aW aO aM txR ps nm v vn hs ww (vp_updL out 0 r.toInt64) z) (As := [.ref (aF 0), .int (xs (x4 + 1).toNatClampNeg), .ref aO]) (rest := []) F G (mL_truncate l hst D T aF aR aD aP aH aW aO tx ps nm v vn hs ww out (xs (x4 + 1).toNatClampNeg) (k := 0) (outR := (vp_updL out 0 r.toInt64)) h1 (Or.inl ⟨rfl, rfl, rfl⟩)) (vx_cwSW 3 hAL (kgL_c kLl92 (kgL_c kLl93 (kgL_c kLl84 (kgL_c kLl94 kgL_a)))) rfl rfl rfl (by decide +kernel) ⟨Nat.le_of_ble_eq_true rfl, Nat.le_of_ble_eq_true rfl⟩) (kCut_LO G) rfl hl.1 rfl (Nat.le_of_ble_eq_true rfl) dL_law_296 ⟨kroom1 hcs.1 (Nat.le_of_ble_eq_true rfl), kroom1 hcs.2 (Nat.le_of_ble_eq_true rfl)⟩ (cN := cells + 1) (sN := slots + 6) ⟨rfl, rfl⟩ (fun H locs G => ?_)
    have hcmp : lg_cmp ((vp_updL out 0 r.toInt64) (0 : Int32).toNatClampNeg) r.toInt64 = 0 := lg_same _ _
    refine lv_istore (lv' := [(5, .int 0), (4, .int x4), (3, .ref aO), (2, .ref (aM 0)), (1, .ref (aF 0)), (0, .ref b)]) F.1 F.2.1 dL_law_299 hl (by decide) rfl (fun ls hl => ?_)
    refine lv_aload_n F.1 F.2.1 dL_law_301 rfl (lv_at hl 3 rfl) ?_
    refine lv_aload_n F.1 F.2.1 dL_law_302 rfl (lv_at hl 5 rfl) ?_
    refine lv_iload F.1 F.2.1 dL_law_303 (lv_at hl 1 rfl) ?_
    refine lv_iconst (v := 1) F.1 F.2.1 dL_law_305 (by decide) ?_
    refine lv_iadd F.1 F.2.1 dL_law_306 ?_
    refine va_sld F.1 F.2.1 hX hbl hbA G.2.2.2.1 hi1 dL_law_307 ?_
    refine k_callVR (rv := _) (Wc := gM T aM z) (W2 := gM T aM zR) (Wn := gL T aF aR aD aP aH aW aO aM txR ps nm v vn hs ww (vp_updL out 0 r.toInt64) zR) (As := [.int (xs (x4 + 1).toNatClampNeg)]) (rest := []) F G (mX11_truncate l D T aM z (xs (x4 + 1).toNatClampNeg) h2) (cwV 1 hAL (kgL_c kLl95 (kgL_c kLl96 (kgL_c kLl97 (kgL_c (kA kl788) (kgL_c (kA kl812) kgL_k))))) rfl rfl rfl (by decide +kernel) ⟨Nat.le_of_ble_eq_true rfl, Nat.le_of_ble_eq_true rfl⟩) (kg_recv G 0 0 (by decide) rfl (q := (RX11, TX11, 35)) rfl) (kCut_LM G) rfl hl.1 rfl (Nat.le_of_ble_eq_true rfl) dL_law_308 ⟨kroom2 hcs.1 (Nat.le_of_ble_eq_true rfl), kroom2 hcs.2 (Nat.le_of_ble_eq_true rfl)⟩ (cN := cells + 1) (sN := slots + 6) ⟨rfl, rfl⟩ (fun H locs G => ?_)
    have hS := hSR
    refine lv_istore (lv' := [(6, .int r), (5, .int 0), (4, .int x4), (3, .ref aO), (2, .ref (aM 0)), (1, .ref (aF 0)), (0, .ref b)]) F.1 F.2.1 dL_law_311 hl (by decide) rfl (fun ls hl => ?_)
    refine lv_aload_n F.1 F.2.1 dL_law_313 rfl (lv_at hl 4 rfl) ?_
    refine k_callVR (rv := (some (.int (zR 0 0)))) (Wc := gM T aM zR) (W2 := gM T aM zR) (Wn := gL T aF aR aD aP aH aW aO aM txR ps nm v vn hs ww (vp_updL out 0 r.toInt64) zR) (As := []) (rest := []) F G (mX11_thrown l D T aM zR rfl) (cwV 0 hAL (kgL_c kLl89 (kgL_c kLl90 (kgL_c kLl91 (kgL_c (kA kl788) (kgL_c (kA kl803) kgL_k))))) rfl rfl rfl (by decide +kernel) ⟨Nat.le_of_ble_eq_true rfl, Nat.le_of_ble_eq_true rfl⟩) (kg_recv G 0 0 (by decide) rfl (q := (RX11, TX11, 35)) rfl) (kCut_LM G) rfl hl.1 rfl (Nat.le_of_ble_eq_true rfl) dL_law_314 ⟨kroom2 hcs.1 (Nat.le_of_ble_eq_true rfl), kroom2 hcs.2 (Nat.le_of_ble_eq_true rfl)⟩ (cN := cells + 1) (sN := slots + 6) ⟨rfl, rfl⟩ (fun H locs G => ?_)
    refine lv_iload F.1 F.2.1 dL_law_317 (lv_at hl 1 rfl) ?_
    refine lv_icmp_eq (tgt := 324) F.1 F.2.1 dL_law_319 (by decide) (fun c => ?_) (fun c => absurd hthr c)
    refine lv_iload F.1 F.2.1 dL_law_324 (lv_at hl 1 rfl) ?_
    refine lv_if_ne (tgt := 341) F.1 F.2.1 dL_law_326 (by decide) (fun c => absurd (by decide) c) (fun c => ?_)
    refine lv_aload_n F.1 F.2.1 dL_law_329 rfl (lv_at hl 3 rfl) ?_
    refine lv_iconst (v := 0) F.1 F.2.1 dL_law_330 (by decide) ?_
    refine kg_lald F G 1 0 (by decide) rfl (i := 0) (kin (by decide +kernel)) dL_law_331 ?_
    refine lv_iload F.1 F.2.1 dL_law_332 (lv_at hl 0 rfl) ?_
    refine lv_i2l (v := r.toInt64) F.1 F.2.1 dL_law_334 rfl ?_
    refine W.lcmp F.1 F.2.1 dL_law_335 ?_
    refine lv_if_eq (tgt := 341) F.1 F.2.1 dL_law_336 (by decide) (fun c => ?_) (fun c => absurd hcmp c)
    refine lv_goto (tgt := 1909) F.1 F.2.1 dL_law_341 (by decide) ?_
    exact kk txR ps nm v vn hs ww (vp_updL out 0 r.toInt64) zR _ _ _ hS G (lv_sub hl [2, 3, 4, 5, 6] rfl)
  · have hthr : zR 0 0 = 1 := hz
    refine kl_callSW (rv := some (.int 1)) (Wc := gO T aF aR aD aP aH aW aO tx ps nm v vn hs ww out) (W2 := gO T aF aR aD aP aH aW aO txR ps nm v vn hs ww out) (Wn := gL T aF aR aD aP aH aW aO aM txR ps nm v vn hs ww out z) (As := [.ref (aF 0), .int (xs (x4 + 1).toNatClampNeg), .ref aO]) (rest := []) F G (mL_truncate l hst D T aF aR aD aP aH aW aO tx ps nm v vn hs ww out (xs (x4 + 1).toNatClampNeg) (k := 1) (outR := out) h1 (Or.inr ⟨rfl, rfl, rfl⟩)) (vx_cwSW 3 hAL (kgL_c kLl92 (kgL_c kLl93 (kgL_c kLl84 (kgL_c kLl94 kgL_a)))) rfl rfl rfl (by decide +kernel) ⟨Nat.le_of_ble_eq_true rfl, Nat.le_of_ble_eq_true rfl⟩) (kCut_LO G) rfl hl.1 rfl (Nat.le_of_ble_eq_true rfl) dL_law_296 ⟨kroom1 hcs.1 (Nat.le_of_ble_eq_true rfl), kroom1 hcs.2 (Nat.le_of_ble_eq_true rfl)⟩ (cN := cells + 1) (sN := slots + 6) ⟨rfl, rfl⟩ (fun H locs G => ?_)
    refine lv_istore (lv' := [(5, .int 1), (4, .int x4), (3, .ref aO), (2, .ref (aM 0)), (1, .ref (aF 0)), (0, .ref b)]) F.1 F.2.1 dL_law_299 hl (by decide) rfl (fun ls hl => ?_)
    refine lv_aload_n F.1 F.2.1 dL_law_301 rfl (lv_at hl 3 rfl) ?_
    refine lv_aload_n F.1 F.2.1 dL_law_302 rfl (lv_at hl 5 rfl) ?_
    refine lv_iload F.1 F.2.1 dL_law_303 (lv_at hl 1 rfl) ?_
    refine lv_iconst (v := 1) F.1 F.2.1 dL_law_305 (by decide) ?_
    refine lv_iadd F.1 F.2.1 dL_law_306 ?_
    refine va_sld F.1 F.2.1 hX hbl hbA G.2.2.2.1 hi1 dL_law_307 ?_
    refine k_callVR (rv := _) (Wc := gM T aM z) (W2 := gM T aM zR) (Wn := gL T aF aR aD aP aH aW aO aM txR ps nm v vn hs ww out zR) (As := [.int (xs (x4 + 1).toNatClampNeg)]) (rest := []) F G (mX11_truncate l D T aM z (xs (x4 + 1).toNatClampNeg) h2) (cwV 1 hAL (kgL_c kLl95 (kgL_c kLl96 (kgL_c kLl97 (kgL_c (kA kl788) (kgL_c (kA kl812) kgL_k))))) rfl rfl rfl (by decide +kernel) ⟨Nat.le_of_ble_eq_true rfl, Nat.le_of_ble_eq_true rfl⟩) (kg_recv G 0 0 (by decide) rfl (q := (RX11, TX11, 35)) rfl) (kCut_LM G) rfl hl.1 rfl (Nat.le_of_ble_eq_true rfl) dL_law_308 ⟨kroom2 hcs.1 (Nat.le_of_ble_eq_true rfl), kroom2 hcs.2 (Nat.le_of_ble_eq_true rfl)⟩ (cN := cells + 1) (sN := slots + 6) ⟨rfl, rfl⟩ (fun H locs G => ?_)
    have hS := hSR
    refine lv_istore (lv' := [(6, .int b'), (5, .int 1), (4, .int x4), (3, .ref aO), (2, .ref (aM 0)), (1, .ref (aF 0)), (0, .ref b)]) F.1 F.2.1 dL_law_311 hl (by decide) rfl (fun ls hl => ?_)
    refine lv_aload_n F.1 F.2.1 dL_law_313 rfl (lv_at hl 4 rfl) ?_
    refine k_callVR (rv := (some (.int (zR 0 0)))) (Wc := gM T aM zR) (W2 := gM T aM zR) (Wn := gL T aF aR aD aP aH aW aO aM txR ps nm v vn hs ww out zR) (As := []) (rest := []) F G (mX11_thrown l D T aM zR rfl) (cwV 0 hAL (kgL_c kLl89 (kgL_c kLl90 (kgL_c kLl91 (kgL_c (kA kl788) (kgL_c (kA kl803) kgL_k))))) rfl rfl rfl (by decide +kernel) ⟨Nat.le_of_ble_eq_true rfl, Nat.le_of_ble_eq_true rfl⟩) (kg_recv G 0 0 (by decide) rfl (q := (RX11, TX11, 35)) rfl) (kCut_LM G) rfl hl.1 rfl (Nat.le_of_ble_eq_true rfl) dL_law_314 ⟨kroom2 hcs.1 (Nat.le_of_ble_eq_true rfl), kroom2 hcs.2 (Nat.le_of_ble_eq_true rfl)⟩ (cN := cells + 1) (sN := slots + 6) ⟨rfl, rfl⟩ (fun H locs G => ?_)
    refine lv_iload F.1 F.2.1 dL_law_317 (lv_at hl 1 rfl) ?_
    refine lv_icmp_eq (tgt := 324) F.1 F.2.1 dL_law_319 (by decide) (fun c => ?_) (fun c => absurd hthr c)
    refine lv_iload F.1 F.2.1 dL_law_324 (lv_at hl 1 rfl) ?_
    refine lv_if_ne (tgt := 341) F.1 F.2.1 dL_law_326 (by decide) (fun c => ?_) (fun c => absurd c (by decide))
    refine lv_goto (tgt := 1909) F.1 F.2.1 dL_law_341 (by decide) ?_
    exact kk txR ps nm v vn hs ww out zR _ _ _ hS G (lv_sub hl [2, 3, 4, 5, 6] rfl)
set_option maxHeartbeats 8000000 in
set_option maxRecDepth 100000 in
theorem lc_load {Sim : (Nat → Nat → Int32) → (Nat → Nat → Int32) → (Nat → Int64) → (Nat → Nat → Int32) → (Nat → Int64) → (Nat → Nat → Int32) → (Nat → Nat → Nat → Int32) → (Nat → Nat → Int32) → Prop} (Hs : St_load Sim) (hst : l.stackTraces = false) (F : CallFix p m c code 9 s args kAll RL) (hAL : ∀ w ∈ kAL, w.before args s = true) (hr : meth.sig.returnType = ret) (hlk : meth.locks = false) (hX : va_X b L xs s s.heap) (hbl : b < s.heap.size) (hbA : ¬ A b) {x4 : Int32} (hi1 : vp_in (x4 + 1) L) (hi2 : vp_in (x4 + 2) L) (hi3 : vp_in (x4 + 3) L) (hi4 : vp_in (x4 + 4) L) (hi5 : vp_in (x4 + 5) L) (hcs : cells + 2 ≤ 601024 ∧ slots + 12 ≤ 7293034) (hS : Sim tx ps nm v vn hs ww z)
    (kk : ∀ (tx : Nat → Nat → Int32) (ps : Nat → Nat → Int32) (nm : Nat → Int64) (v : Nat → Nat → Int32) (vn : Nat → Int64) (hs : Nat → Nat → Int32) (ww : Nat → Nat → Nat → Int32) (out : Nat → Int64) (z : Nat → Nat → Int32) (H : Heap) (locs : List Loc) (ls : Array Slot), Sim tx ps nm v vn hs ww z → Rg D T A s (gL T aF aR aD aP aH aW aO aM tx ps nm v vn hs ww out z) H locs → lv_has ls 9 [(4, .int x4), (3, .ref aO), (2, .ref (aM 0)), (1, .ref (aF 0)), (0, .ref b)] → W p l e room_1 s m args below meth c H locs (cells + 1) (slots + 6) Q (F0 m 1909 ls []))
    (G : Rg D T A s (gL T aF aR aD aP aH aW aO aM tx ps nm v vn hs ww out z) H locs) (hl : lv_has ls 9 [(4, .int x4), (3, .ref aO), (2, .ref (aM 0)), (1, .ref (aF 0)), (0, .ref b)]) : W p l e room_1 s m args below meth c H locs cells slots Q (F0 m 344 ls []) := by
  refine lv_aload_n F.1 F.2.1 dL_law_344 rfl (lv_at hl 3 rfl) ?_
  refine lv_aload_n F.1 F.2.1 dL_law_345 rfl (lv_at hl 1 rfl) ?_
  obtain ⟨e, r, txR, psR, nmR, vR, vnR, hsR, wwR, b', zR, h1, h2, hd, hSR⟩ := Hs tx ps nm v vn hs ww z hS
  rcases hd with ⟨rfl, hz, rfl⟩ | ⟨rfl, hz⟩
  · have hthr : zR 0 0 = 0 := hz
    refine kl_callSW (rv := some (.int 0)) (Wc := gO T aF aR aD aP aH aW aO tx ps nm v vn hs ww out) (W2 := gO T aF aR aD aP aH aW aO txR psR nmR vR vnR hsR wwR (vp_updL out 0 r.toInt64)) (Wn := gL T aF aR aD aP aH aW aO aM txR psR nmR vR vnR hsR wwR (vp_updL out 0 r.toInt64) z) (As := [.ref (aF 0), .ref aO]) (rest := []) F G (mL_load l hst D T aF aR aD aP aH aW aO tx ps nm v vn hs ww out (k := 0) (outR := (vp_updL out 0 r.toInt64)) h1 (Or.inl ⟨rfl, rfl, rfl⟩)) (vx_cwSW 2 hAL (kgL_c kLl98 (kgL_c kLl99 (kgL_c kLl84 (kgL_c kLl100 kgL_a)))) rfl rfl rfl (by decide +kernel) ⟨Nat.le_of_ble_eq_true rfl, Nat.le_of_ble_eq_true rfl⟩) (kCut_LO G) rfl hl.1 rfl (Nat.le_of_ble_eq_true rfl) dL_law_346 ⟨kroom1 hcs.1 (Nat.le_of_ble_eq_true rfl), kroom1 hcs.2 (Nat.le_of_ble_eq_true rfl)⟩ (cN := cells + 1) (sN := slots + 6) ⟨rfl, rfl⟩ (fun H locs G => ?_)
    have hcmp : lg_cmp ((vp_updL out 0 r.toInt64) (0 : Int32).toNatClampNeg) r.toInt64 = 0 := lg_same _ _
    refine lv_istore (lv' := [(5, .int 0), (4, .int x4), (3, .ref aO), (2, .ref (aM 0)), (1, .ref (aF 0)), (0, .ref b)]) F.1 F.2.1 dL_law_349 hl (by decide) rfl (fun ls hl => ?_)
    refine lv_aload_n F.1 F.2.1 dL_law_351 rfl (lv_at hl 3 rfl) ?_
    refine k_callVR (rv := _) (Wc := gM T aM z) (W2 := gM T aM zR) (Wn := gL T aF aR aD aP aH aW aO aM txR psR nmR vR vnR hsR wwR (vp_updL out 0 r.toInt64) zR) (As := []) (rest := []) F G (mX11_load l D T aM z h2) (cwV 0 hAL (kgL_c kLl101 (kgL_c kLl102 (kgL_c kLl103 (kgL_c (kA kl788) (kgL_c (kA kl882) kgL_k))))) rfl rfl rfl (by decide +kernel) ⟨Nat.le_of_ble_eq_true rfl, Nat.le_of_ble_eq_true rfl⟩) (kg_recv G 0 0 (by decide) rfl (q := (RX11, TX11, 35)) rfl) (kCut_LM G) rfl hl.1 rfl (Nat.le_of_ble_eq_true rfl) dL_law_352 ⟨kroom2 hcs.1 (Nat.le_of_ble_eq_true rfl), kroom2 hcs.2 (Nat.le_of_ble_eq_true rfl)⟩ (cN := cells + 1) (sN := slots + 6) ⟨rfl, rfl⟩ (fun H locs G => ?_)
    have hS := hSR
    refine lv_istore (lv' := [(6, .int r), (5, .int 0), (4, .int x4), (3, .ref aO), (2, .ref (aM 0)), (1, .ref (aF 0)), (0, .ref b)]) F.1 F.2.1 dL_law_355 hl (by decide) rfl (fun ls hl => ?_)
    refine lv_aload_n F.1 F.2.1 dL_law_357 rfl (lv_at hl 4 rfl) ?_
    refine k_callVR (rv := (some (.int (zR 0 0)))) (Wc := gM T aM zR) (W2 := gM T aM zR) (Wn := gL T aF aR aD aP aH aW aO aM txR psR nmR vR vnR hsR wwR (vp_updL out 0 r.toInt64) zR) (As := []) (rest := []) F G (mX11_thrown l D T aM zR rfl) (cwV 0 hAL (kgL_c kLl89 (kgL_c kLl90 (kgL_c kLl91 (kgL_c (kA kl788) (kgL_c (kA kl803) kgL_k))))) rfl rfl rfl (by decide +kernel) ⟨Nat.le_of_ble_eq_true rfl, Nat.le_of_ble_eq_true rfl⟩) (kg_recv G 0 0 (by decide) rfl (q := (RX11, TX11, 35)) rfl) (kCut_LM G) rfl hl.1 rfl (Nat.le_of_ble_eq_true rfl) dL_law_358 ⟨kroom2 hcs.1 (Nat.le_of_ble_eq_true rfl), kroom2 hcs.2 (Nat.le_of_ble_eq_true rfl)⟩ (cN := cells + 1) (sN := slots + 6) ⟨rfl, rfl⟩ (fun H locs G => ?_)
    refine lv_iload F.1 F.2.1 dL_law_361 (lv_at hl 1 rfl) ?_
    refine lv_icmp_eq (tgt := 368) F.1 F.2.1 dL_law_363 (by decide) (fun c => ?_) (fun c => absurd hthr c)
    refine lv_iload F.1 F.2.1 dL_law_368 (lv_at hl 1 rfl) ?_
    refine lv_if_ne (tgt := 385) F.1 F.2.1 dL_law_370 (by decide) (fun c => absurd (by decide) c) (fun c => ?_)
    refine lv_aload_n F.1 F.2.1 dL_law_373 rfl (lv_at hl 3 rfl) ?_
    refine lv_iconst (v := 0) F.1 F.2.1 dL_law_374 (by decide) ?_
    refine kg_lald F G 1 0 (by decide) rfl (i := 0) (kin (by decide +kernel)) dL_law_375 ?_
    refine lv_iload F.1 F.2.1 dL_law_376 (lv_at hl 0 rfl) ?_
    refine lv_i2l (v := r.toInt64) F.1 F.2.1 dL_law_378 rfl ?_
    refine W.lcmp F.1 F.2.1 dL_law_379 ?_
    refine lv_if_eq (tgt := 385) F.1 F.2.1 dL_law_380 (by decide) (fun c => ?_) (fun c => absurd hcmp c)
    refine lv_goto (tgt := 1909) F.1 F.2.1 dL_law_385 (by decide) ?_
    exact kk txR psR nmR vR vnR hsR wwR (vp_updL out 0 r.toInt64) zR _ _ _ hS G (lv_sub hl [2, 3, 4, 5, 6] rfl)
  · have hthr : zR 0 0 = 1 := hz
    refine kl_callSW (rv := some (.int 1)) (Wc := gO T aF aR aD aP aH aW aO tx ps nm v vn hs ww out) (W2 := gO T aF aR aD aP aH aW aO txR psR nmR vR vnR hsR wwR out) (Wn := gL T aF aR aD aP aH aW aO aM txR psR nmR vR vnR hsR wwR out z) (As := [.ref (aF 0), .ref aO]) (rest := []) F G (mL_load l hst D T aF aR aD aP aH aW aO tx ps nm v vn hs ww out (k := 1) (outR := out) h1 (Or.inr ⟨rfl, rfl, rfl⟩)) (vx_cwSW 2 hAL (kgL_c kLl98 (kgL_c kLl99 (kgL_c kLl84 (kgL_c kLl100 kgL_a)))) rfl rfl rfl (by decide +kernel) ⟨Nat.le_of_ble_eq_true rfl, Nat.le_of_ble_eq_true rfl⟩) (kCut_LO G) rfl hl.1 rfl (Nat.le_of_ble_eq_true rfl) dL_law_346 ⟨kroom1 hcs.1 (Nat.le_of_ble_eq_true rfl), kroom1 hcs.2 (Nat.le_of_ble_eq_true rfl)⟩ (cN := cells + 1) (sN := slots + 6) ⟨rfl, rfl⟩ (fun H locs G => ?_)
    refine lv_istore (lv' := [(5, .int 1), (4, .int x4), (3, .ref aO), (2, .ref (aM 0)), (1, .ref (aF 0)), (0, .ref b)]) F.1 F.2.1 dL_law_349 hl (by decide) rfl (fun ls hl => ?_)
    refine lv_aload_n F.1 F.2.1 dL_law_351 rfl (lv_at hl 3 rfl) ?_
    refine k_callVR (rv := _) (Wc := gM T aM z) (W2 := gM T aM zR) (Wn := gL T aF aR aD aP aH aW aO aM txR psR nmR vR vnR hsR wwR out zR) (As := []) (rest := []) F G (mX11_load l D T aM z h2) (cwV 0 hAL (kgL_c kLl101 (kgL_c kLl102 (kgL_c kLl103 (kgL_c (kA kl788) (kgL_c (kA kl882) kgL_k))))) rfl rfl rfl (by decide +kernel) ⟨Nat.le_of_ble_eq_true rfl, Nat.le_of_ble_eq_true rfl⟩) (kg_recv G 0 0 (by decide) rfl (q := (RX11, TX11, 35)) rfl) (kCut_LM G) rfl hl.1 rfl (Nat.le_of_ble_eq_true rfl) dL_law_352 ⟨kroom2 hcs.1 (Nat.le_of_ble_eq_true rfl), kroom2 hcs.2 (Nat.le_of_ble_eq_true rfl)⟩ (cN := cells + 1) (sN := slots + 6) ⟨rfl, rfl⟩ (fun H locs G => ?_)
    have hS := hSR
    refine lv_istore (lv' := [(6, .int b'), (5, .int 1), (4, .int x4), (3, .ref aO), (2, .ref (aM 0)), (1, .ref (aF 0)), (0, .ref b)]) F.1 F.2.1 dL_law_355 hl (by decide) rfl (fun ls hl => ?_)
    refine lv_aload_n F.1 F.2.1 dL_law_357 rfl (lv_at hl 4 rfl) ?_
    refine k_callVR (rv := (some (.int (zR 0 0)))) (Wc := gM T aM zR) (W2 := gM T aM zR) (Wn := gL T aF aR aD aP aH aW aO aM txR psR nmR vR vnR hsR wwR out zR) (As := []) (rest := []) F G (mX11_thrown l D T aM zR rfl) (cwV 0 hAL (kgL_c kLl89 (kgL_c kLl90 (kgL_c kLl91 (kgL_c (kA kl788) (kgL_c (kA kl803) kgL_k))))) rfl rfl rfl (by decide +kernel) ⟨Nat.le_of_ble_eq_true rfl, Nat.le_of_ble_eq_true rfl⟩) (kg_recv G 0 0 (by decide) rfl (q := (RX11, TX11, 35)) rfl) (kCut_LM G) rfl hl.1 rfl (Nat.le_of_ble_eq_true rfl) dL_law_358 ⟨kroom2 hcs.1 (Nat.le_of_ble_eq_true rfl), kroom2 hcs.2 (Nat.le_of_ble_eq_true rfl)⟩ (cN := cells + 1) (sN := slots + 6) ⟨rfl, rfl⟩ (fun H locs G => ?_)
    refine lv_iload F.1 F.2.1 dL_law_361 (lv_at hl 1 rfl) ?_
    refine lv_icmp_eq (tgt := 368) F.1 F.2.1 dL_law_363 (by decide) (fun c => ?_) (fun c => absurd hthr c)
    refine lv_iload F.1 F.2.1 dL_law_368 (lv_at hl 1 rfl) ?_
    refine lv_if_ne (tgt := 385) F.1 F.2.1 dL_law_370 (by decide) (fun c => ?_) (fun c => absurd c (by decide))
    refine lv_goto (tgt := 1909) F.1 F.2.1 dL_law_385 (by decide) ?_
    exact kk txR psR nmR vR vnR hsR wwR out zR _ _ _ hS G (lv_sub hl [2, 3, 4, 5, 6] rfl)
set_option maxHeartbeats 8000000 in
set_option maxRecDepth 100000 in
theorem lc_errorCode {Sim : (Nat → Nat → Int32) → (Nat → Nat → Int32) → (Nat → Int64) → (Nat → Nat → Int32) → (Nat → Int64) → (Nat → Nat → Int32) → (Nat → Nat → Nat → Int32) → (Nat → Nat → Int32) → Prop} (Hs : St_errorCode Sim) (hst : l.stackTraces = false) (F : CallFix p m c code 9 s args kAll RL) (hAL : ∀ w ∈ kAL, w.before args s = true) (hr : meth.sig.returnType = ret) (hlk : meth.locks = false) (hX : va_X b L xs s s.heap) (hbl : b < s.heap.size) (hbA : ¬ A b) {x4 : Int32} (hi1 : vp_in (x4 + 1) L) (hi2 : vp_in (x4 + 2) L) (hi3 : vp_in (x4 + 3) L) (hi4 : vp_in (x4 + 4) L) (hi5 : vp_in (x4 + 5) L) (hcs : cells + 2 ≤ 601024 ∧ slots + 12 ≤ 7293034) (hS : Sim tx ps nm v vn hs ww z)
    (kk : ∀ (tx : Nat → Nat → Int32) (ps : Nat → Nat → Int32) (nm : Nat → Int64) (v : Nat → Nat → Int32) (vn : Nat → Int64) (hs : Nat → Nat → Int32) (ww : Nat → Nat → Nat → Int32) (out : Nat → Int64) (z : Nat → Nat → Int32) (H : Heap) (locs : List Loc) (ls : Array Slot), Sim tx ps nm v vn hs ww z → Rg D T A s (gL T aF aR aD aP aH aW aO aM tx ps nm v vn hs ww out z) H locs → lv_has ls 9 [(4, .int x4), (3, .ref aO), (2, .ref (aM 0)), (1, .ref (aF 0)), (0, .ref b)] → W p l e room_1 s m args below meth c H locs (cells + 0) (slots + 0) Q (F0 m 1909 ls []))
    (G : Rg D T A s (gL T aF aR aD aP aH aW aO aM tx ps nm v vn hs ww out z) H locs) (hl : lv_has ls 9 [(4, .int x4), (3, .ref aO), (2, .ref (aM 0)), (1, .ref (aF 0)), (0, .ref b)]) : W p l e room_1 s m args below meth c H locs cells slots Q (F0 m 388 ls []) := by
  refine lv_aload_n F.1 F.2.1 dL_law_388 rfl (lv_at hl 3 rfl) ?_
  obtain ⟨r, b', zR, h1, h2, hd, hSR⟩ := Hs tx ps nm v vn hs ww z hS
  refine k_callVR (rv := (some (.int r))) (Wc := gU T aF aR aD aP aH aW tx ps nm v vn hs ww) (W2 := gU T aF aR aD aP aH aW tx ps nm v vn hs ww) (Wn := gL T aF aR aD aP aH aW aO aM tx ps nm v vn hs ww out z) (As := []) (rest := []) F G (mX10_errorCode l D T aF aR aD aP aH aW tx ps nm v vn hs ww h1) (cwV 0 hAL (kgL_c kLl104 (kgL_c kLl105 (kgL_c kLl106 (kgL_c (kA kl80) (kgL_c (kA kl634) kgL_k))))) rfl rfl rfl (by decide +kernel) ⟨Nat.le_of_ble_eq_true rfl, Nat.le_of_ble_eq_true rfl⟩) (kg_recv G 2 0 (by decide) rfl (q := (RX10, TX10, 6)) rfl) (kCut_LU G) rfl hl.1 rfl (Nat.le_of_ble_eq_true rfl) dL_law_389 ⟨kroom1 hcs.1 (Nat.le_of_ble_eq_true rfl), kroom1 hcs.2 (Nat.le_of_ble_eq_true rfl)⟩ (cN := cells) (sN := slots) ⟨rfl, rfl⟩ (fun H locs G => ?_)
  obtain rfl := hd
  refine lv_aload_n F.1 F.2.1 dL_law_392 rfl (lv_at hl 2 rfl) ?_
  refine k_callVR (rv := _) (Wc := gM T aM z) (W2 := gM T aM zR) (Wn := gL T aF aR aD aP aH aW aO aM tx ps nm v vn hs ww out zR) (As := []) (rest := [.int r]) F G (mX11_errorCode l D T aM z h2) (cwV 0 hAL (kgL_c kLl107 (kgL_c kLl108 (kgL_c kLl109 (kgL_c (kA kl788) (kgL_c (kA kl892) kgL_k))))) rfl rfl rfl (by decide +kernel) ⟨Nat.le_of_ble_eq_true rfl, Nat.le_of_ble_eq_true rfl⟩) (kg_recv G 0 0 (by decide) rfl (q := (RX11, TX11, 35)) rfl) (kCut_LM G) rfl hl.1 rfl (Nat.le_of_ble_eq_true rfl) dL_law_393 ⟨kroom1 hcs.1 (Nat.le_of_ble_eq_true rfl), kroom1 hcs.2 (Nat.le_of_ble_eq_true rfl)⟩ (cN := cells + 0) (sN := slots + 0) ⟨rfl, rfl⟩ (fun H locs G => ?_)
  have hS := hSR
  refine lv_icmp_eq (tgt := 1909) F.1 F.2.1 dL_law_396 (by decide) (fun c => ?_) (fun c => absurd rfl c)
  exact kk tx ps nm v vn hs ww out zR _ _ _ hS G hl
set_option maxHeartbeats 8000000 in
set_option maxRecDepth 100000 in
theorem lc_errorPosition {Sim : (Nat → Nat → Int32) → (Nat → Nat → Int32) → (Nat → Int64) → (Nat → Nat → Int32) → (Nat → Int64) → (Nat → Nat → Int32) → (Nat → Nat → Nat → Int32) → (Nat → Nat → Int32) → Prop} (Hs : St_errorPosition Sim) (hst : l.stackTraces = false) (F : CallFix p m c code 9 s args kAll RL) (hAL : ∀ w ∈ kAL, w.before args s = true) (hr : meth.sig.returnType = ret) (hlk : meth.locks = false) (hX : va_X b L xs s s.heap) (hbl : b < s.heap.size) (hbA : ¬ A b) {x4 : Int32} (hi1 : vp_in (x4 + 1) L) (hi2 : vp_in (x4 + 2) L) (hi3 : vp_in (x4 + 3) L) (hi4 : vp_in (x4 + 4) L) (hi5 : vp_in (x4 + 5) L) (hcs : cells + 2 ≤ 601024 ∧ slots + 12 ≤ 7293034) (hS : Sim tx ps nm v vn hs ww z)
    (kk : ∀ (tx : Nat → Nat → Int32) (ps : Nat → Nat → Int32) (nm : Nat → Int64) (v : Nat → Nat → Int32) (vn : Nat → Int64) (hs : Nat → Nat → Int32) (ww : Nat → Nat → Nat → Int32) (out : Nat → Int64) (z : Nat → Nat → Int32) (H : Heap) (locs : List Loc) (ls : Array Slot), Sim tx ps nm v vn hs ww z → Rg D T A s (gL T aF aR aD aP aH aW aO aM tx ps nm v vn hs ww out z) H locs → lv_has ls 9 [(4, .int x4), (3, .ref aO), (2, .ref (aM 0)), (1, .ref (aF 0)), (0, .ref b)] → W p l e room_1 s m args below meth c H locs (cells + 0) (slots + 0) Q (F0 m 1909 ls []))
    (G : Rg D T A s (gL T aF aR aD aP aH aW aO aM tx ps nm v vn hs ww out z) H locs) (hl : lv_has ls 9 [(4, .int x4), (3, .ref aO), (2, .ref (aM 0)), (1, .ref (aF 0)), (0, .ref b)]) : W p l e room_1 s m args below meth c H locs cells slots Q (F0 m 401 ls []) := by
  refine lv_aload_n F.1 F.2.1 dL_law_401 rfl (lv_at hl 3 rfl) ?_
  obtain ⟨r, b', zR, h1, h2, hd, hSR⟩ := Hs tx ps nm v vn hs ww z hS
  refine k_callVR (rv := (some (.int r))) (Wc := gU T aF aR aD aP aH aW tx ps nm v vn hs ww) (W2 := gU T aF aR aD aP aH aW tx ps nm v vn hs ww) (Wn := gL T aF aR aD aP aH aW aO aM tx ps nm v vn hs ww out z) (As := []) (rest := []) F G (mX10_errorPosition l D T aF aR aD aP aH aW tx ps nm v vn hs ww h1) (cwV 0 hAL (kgL_c kLl110 (kgL_c kLl111 (kgL_c kLl112 (kgL_c (kA kl80) (kgL_c (kA kl636) kgL_k))))) rfl rfl rfl (by decide +kernel) ⟨Nat.le_of_ble_eq_true rfl, Nat.le_of_ble_eq_true rfl⟩) (kg_recv G 2 0 (by decide) rfl (q := (RX10, TX10, 6)) rfl) (kCut_LU G) rfl hl.1 rfl (Nat.le_of_ble_eq_true rfl) dL_law_402 ⟨kroom1 hcs.1 (Nat.le_of_ble_eq_true rfl), kroom1 hcs.2 (Nat.le_of_ble_eq_true rfl)⟩ (cN := cells) (sN := slots) ⟨rfl, rfl⟩ (fun H locs G => ?_)
  obtain rfl := hd
  refine lv_aload_n F.1 F.2.1 dL_law_405 rfl (lv_at hl 2 rfl) ?_
  refine k_callVR (rv := _) (Wc := gM T aM z) (W2 := gM T aM zR) (Wn := gL T aF aR aD aP aH aW aO aM tx ps nm v vn hs ww out zR) (As := []) (rest := [.int r]) F G (mX11_errorPosition l D T aM z h2) (cwV 0 hAL (kgL_c kLl113 (kgL_c kLl114 (kgL_c kLl115 (kgL_c (kA kl788) (kgL_c (kA kl893) kgL_k))))) rfl rfl rfl (by decide +kernel) ⟨Nat.le_of_ble_eq_true rfl, Nat.le_of_ble_eq_true rfl⟩) (kg_recv G 0 0 (by decide) rfl (q := (RX11, TX11, 35)) rfl) (kCut_LM G) rfl hl.1 rfl (Nat.le_of_ble_eq_true rfl) dL_law_406 ⟨kroom1 hcs.1 (Nat.le_of_ble_eq_true rfl), kroom1 hcs.2 (Nat.le_of_ble_eq_true rfl)⟩ (cN := cells + 0) (sN := slots + 0) ⟨rfl, rfl⟩ (fun H locs G => ?_)
  have hS := hSR
  refine lv_icmp_eq (tgt := 1909) F.1 F.2.1 dL_law_409 (by decide) (fun c => ?_) (fun c => absurd rfl c)
  exact kk tx ps nm v vn hs ww out zR _ _ _ hS G hl
set_option maxHeartbeats 8000000 in
set_option maxRecDepth 100000 in
theorem lc_find {Sim : (Nat → Nat → Int32) → (Nat → Nat → Int32) → (Nat → Int64) → (Nat → Nat → Int32) → (Nat → Int64) → (Nat → Nat → Int32) → (Nat → Nat → Nat → Int32) → (Nat → Nat → Int32) → Prop} (Hs : St_find Sim) (hst : l.stackTraces = false) (F : CallFix p m c code 9 s args kAll RL) (hAL : ∀ w ∈ kAL, w.before args s = true) (hr : meth.sig.returnType = ret) (hlk : meth.locks = false) (hX : va_X b L xs s s.heap) (hbl : b < s.heap.size) (hbA : ¬ A b) {x4 : Int32} (hi1 : vp_in (x4 + 1) L) (hi2 : vp_in (x4 + 2) L) (hi3 : vp_in (x4 + 3) L) (hi4 : vp_in (x4 + 4) L) (hi5 : vp_in (x4 + 5) L) (hcs : cells + 2 ≤ 601024 ∧ slots + 12 ≤ 7293034) (hS : Sim tx ps nm v vn hs ww z)
    (kk : ∀ (tx : Nat → Nat → Int32) (ps : Nat → Nat → Int32) (nm : Nat → Int64) (v : Nat → Nat → Int32) (vn : Nat → Int64) (hs : Nat → Nat → Int32) (ww : Nat → Nat → Nat → Int32) (out : Nat → Int64) (z : Nat → Nat → Int32) (H : Heap) (locs : List Loc) (ls : Array Slot), Sim tx ps nm v vn hs ww z → Rg D T A s (gL T aF aR aD aP aH aW aO aM tx ps nm v vn hs ww out z) H locs → lv_has ls 9 [(4, .int x4), (3, .ref aO), (2, .ref (aM 0)), (1, .ref (aF 0)), (0, .ref b)] → W p l e room_1 s m args below meth c H locs (cells + 1) (slots + 6) Q (F0 m 1909 ls []))
    (G : Rg D T A s (gL T aF aR aD aP aH aW aO aM tx ps nm v vn hs ww out z) H locs) (hl : lv_has ls 9 [(4, .int x4), (3, .ref aO), (2, .ref (aM 0)), (1, .ref (aF 0)), (0, .ref b)]) : W p l e room_1 s m args below meth c H locs cells slots Q (F0 m 414 ls []) := by
  refine lv_aload_n F.1 F.2.1 dL_law_414 rfl (lv_at hl 3 rfl) ?_
  refine lv_aload_n F.1 F.2.1 dL_law_415 rfl (lv_at hl 1 rfl) ?_
  obtain ⟨e, r, txR, b', zR, h1, h2, hd, hSR⟩ := Hs tx ps nm v vn hs ww z hS
  rcases hd with ⟨rfl, hz, rfl⟩ | ⟨rfl, hz⟩
  · have hthr : zR 0 0 = 0 := hz
    refine kl_callSW (rv := some (.int 0)) (Wc := gO T aF aR aD aP aH aW aO tx ps nm v vn hs ww out) (W2 := gO T aF aR aD aP aH aW aO txR ps nm v vn hs ww (vp_updL out 0 r.toInt64)) (Wn := gL T aF aR aD aP aH aW aO aM txR ps nm v vn hs ww (vp_updL out 0 r.toInt64) z) (As := [.ref (aF 0), .ref aO]) (rest := []) F G (mL_find l hst D T aF aR aD aP aH aW aO tx ps nm v vn hs ww out (k := 0) (outR := (vp_updL out 0 r.toInt64)) h1 (Or.inl ⟨rfl, rfl, rfl⟩)) (vx_cwSW 2 hAL (kgL_c kLl116 (kgL_c kLl117 (kgL_c kLl84 (kgL_c kLl118 kgL_a)))) rfl rfl rfl (by decide +kernel) ⟨Nat.le_of_ble_eq_true rfl, Nat.le_of_ble_eq_true rfl⟩) (kCut_LO G) rfl hl.1 rfl (Nat.le_of_ble_eq_true rfl) dL_law_416 ⟨kroom1 hcs.1 (Nat.le_of_ble_eq_true rfl), kroom1 hcs.2 (Nat.le_of_ble_eq_true rfl)⟩ (cN := cells + 1) (sN := slots + 6) ⟨rfl, rfl⟩ (fun H locs G => ?_)
    have hcmp : lg_cmp ((vp_updL out 0 r.toInt64) (0 : Int32).toNatClampNeg) r.toInt64 = 0 := lg_same _ _
    refine lv_istore (lv' := [(5, .int 0), (4, .int x4), (3, .ref aO), (2, .ref (aM 0)), (1, .ref (aF 0)), (0, .ref b)]) F.1 F.2.1 dL_law_419 hl (by decide) rfl (fun ls hl => ?_)
    refine lv_aload_n F.1 F.2.1 dL_law_421 rfl (lv_at hl 3 rfl) ?_
    refine k_callVR (rv := _) (Wc := gM T aM z) (W2 := gM T aM zR) (Wn := gL T aF aR aD aP aH aW aO aM txR ps nm v vn hs ww (vp_updL out 0 r.toInt64) zR) (As := []) (rest := []) F G (mX11_find l D T aM z h2) (cwV 0 hAL (kgL_c kLl119 (kgL_c kLl120 (kgL_c kLl121 (kgL_c (kA kl788) (kgL_c (kA kl894) kgL_k))))) rfl rfl rfl (by decide +kernel) ⟨Nat.le_of_ble_eq_true rfl, Nat.le_of_ble_eq_true rfl⟩) (kg_recv G 0 0 (by decide) rfl (q := (RX11, TX11, 35)) rfl) (kCut_LM G) rfl hl.1 rfl (Nat.le_of_ble_eq_true rfl) dL_law_422 ⟨kroom2 hcs.1 (Nat.le_of_ble_eq_true rfl), kroom2 hcs.2 (Nat.le_of_ble_eq_true rfl)⟩ (cN := cells + 1) (sN := slots + 6) ⟨rfl, rfl⟩ (fun H locs G => ?_)
    have hS := hSR
    refine lv_istore (lv' := [(6, .int r), (5, .int 0), (4, .int x4), (3, .ref aO), (2, .ref (aM 0)), (1, .ref (aF 0)), (0, .ref b)]) F.1 F.2.1 dL_law_425 hl (by decide) rfl (fun ls hl => ?_)
    refine lv_aload_n F.1 F.2.1 dL_law_427 rfl (lv_at hl 4 rfl) ?_
    refine k_callVR (rv := (some (.int (zR 0 0)))) (Wc := gM T aM zR) (W2 := gM T aM zR) (Wn := gL T aF aR aD aP aH aW aO aM txR ps nm v vn hs ww (vp_updL out 0 r.toInt64) zR) (As := []) (rest := []) F G (mX11_thrown l D T aM zR rfl) (cwV 0 hAL (kgL_c kLl89 (kgL_c kLl90 (kgL_c kLl91 (kgL_c (kA kl788) (kgL_c (kA kl803) kgL_k))))) rfl rfl rfl (by decide +kernel) ⟨Nat.le_of_ble_eq_true rfl, Nat.le_of_ble_eq_true rfl⟩) (kg_recv G 0 0 (by decide) rfl (q := (RX11, TX11, 35)) rfl) (kCut_LM G) rfl hl.1 rfl (Nat.le_of_ble_eq_true rfl) dL_law_428 ⟨kroom2 hcs.1 (Nat.le_of_ble_eq_true rfl), kroom2 hcs.2 (Nat.le_of_ble_eq_true rfl)⟩ (cN := cells + 1) (sN := slots + 6) ⟨rfl, rfl⟩ (fun H locs G => ?_)
    refine lv_iload F.1 F.2.1 dL_law_431 (lv_at hl 1 rfl) ?_
    refine lv_icmp_eq (tgt := 438) F.1 F.2.1 dL_law_433 (by decide) (fun c => ?_) (fun c => absurd hthr c)
    refine lv_iload F.1 F.2.1 dL_law_438 (lv_at hl 1 rfl) ?_
    refine lv_if_ne (tgt := 455) F.1 F.2.1 dL_law_440 (by decide) (fun c => absurd (by decide) c) (fun c => ?_)
    refine lv_aload_n F.1 F.2.1 dL_law_443 rfl (lv_at hl 3 rfl) ?_
    refine lv_iconst (v := 0) F.1 F.2.1 dL_law_444 (by decide) ?_
    refine kg_lald F G 1 0 (by decide) rfl (i := 0) (kin (by decide +kernel)) dL_law_445 ?_
    refine lv_iload F.1 F.2.1 dL_law_446 (lv_at hl 0 rfl) ?_
    refine lv_i2l (v := r.toInt64) F.1 F.2.1 dL_law_448 rfl ?_
    refine W.lcmp F.1 F.2.1 dL_law_449 ?_
    refine lv_if_eq (tgt := 455) F.1 F.2.1 dL_law_450 (by decide) (fun c => ?_) (fun c => absurd hcmp c)
    refine lv_goto (tgt := 1909) F.1 F.2.1 dL_law_455 (by decide) ?_
    exact kk txR ps nm v vn hs ww (vp_updL out 0 r.toInt64) zR _ _ _ hS G (lv_sub hl [2, 3, 4, 5, 6] rfl)
  · have hthr : zR 0 0 = 1 := hz
    refine kl_callSW (rv := some (.int 1)) (Wc := gO T aF aR aD aP aH aW aO tx ps nm v vn hs ww out) (W2 := gO T aF aR aD aP aH aW aO txR ps nm v vn hs ww out) (Wn := gL T aF aR aD aP aH aW aO aM txR ps nm v vn hs ww out z) (As := [.ref (aF 0), .ref aO]) (rest := []) F G (mL_find l hst D T aF aR aD aP aH aW aO tx ps nm v vn hs ww out (k := 1) (outR := out) h1 (Or.inr ⟨rfl, rfl, rfl⟩)) (vx_cwSW 2 hAL (kgL_c kLl116 (kgL_c kLl117 (kgL_c kLl84 (kgL_c kLl118 kgL_a)))) rfl rfl rfl (by decide +kernel) ⟨Nat.le_of_ble_eq_true rfl, Nat.le_of_ble_eq_true rfl⟩) (kCut_LO G) rfl hl.1 rfl (Nat.le_of_ble_eq_true rfl) dL_law_416 ⟨kroom1 hcs.1 (Nat.le_of_ble_eq_true rfl), kroom1 hcs.2 (Nat.le_of_ble_eq_true rfl)⟩ (cN := cells + 1) (sN := slots + 6) ⟨rfl, rfl⟩ (fun H locs G => ?_)
    refine lv_istore (lv' := [(5, .int 1), (4, .int x4), (3, .ref aO), (2, .ref (aM 0)), (1, .ref (aF 0)), (0, .ref b)]) F.1 F.2.1 dL_law_419 hl (by decide) rfl (fun ls hl => ?_)
    refine lv_aload_n F.1 F.2.1 dL_law_421 rfl (lv_at hl 3 rfl) ?_
    refine k_callVR (rv := _) (Wc := gM T aM z) (W2 := gM T aM zR) (Wn := gL T aF aR aD aP aH aW aO aM txR ps nm v vn hs ww out zR) (As := []) (rest := []) F G (mX11_find l D T aM z h2) (cwV 0 hAL (kgL_c kLl119 (kgL_c kLl120 (kgL_c kLl121 (kgL_c (kA kl788) (kgL_c (kA kl894) kgL_k))))) rfl rfl rfl (by decide +kernel) ⟨Nat.le_of_ble_eq_true rfl, Nat.le_of_ble_eq_true rfl⟩) (kg_recv G 0 0 (by decide) rfl (q := (RX11, TX11, 35)) rfl) (kCut_LM G) rfl hl.1 rfl (Nat.le_of_ble_eq_true rfl) dL_law_422 ⟨kroom2 hcs.1 (Nat.le_of_ble_eq_true rfl), kroom2 hcs.2 (Nat.le_of_ble_eq_true rfl)⟩ (cN := cells + 1) (sN := slots + 6) ⟨rfl, rfl⟩ (fun H locs G => ?_)
    have hS := hSR
    refine lv_istore (lv' := [(6, .int b'), (5, .int 1), (4, .int x4), (3, .ref aO), (2, .ref (aM 0)), (1, .ref (aF 0)), (0, .ref b)]) F.1 F.2.1 dL_law_425 hl (by decide) rfl (fun ls hl => ?_)
    refine lv_aload_n F.1 F.2.1 dL_law_427 rfl (lv_at hl 4 rfl) ?_
    refine k_callVR (rv := (some (.int (zR 0 0)))) (Wc := gM T aM zR) (W2 := gM T aM zR) (Wn := gL T aF aR aD aP aH aW aO aM txR ps nm v vn hs ww out zR) (As := []) (rest := []) F G (mX11_thrown l D T aM zR rfl) (cwV 0 hAL (kgL_c kLl89 (kgL_c kLl90 (kgL_c kLl91 (kgL_c (kA kl788) (kgL_c (kA kl803) kgL_k))))) rfl rfl rfl (by decide +kernel) ⟨Nat.le_of_ble_eq_true rfl, Nat.le_of_ble_eq_true rfl⟩) (kg_recv G 0 0 (by decide) rfl (q := (RX11, TX11, 35)) rfl) (kCut_LM G) rfl hl.1 rfl (Nat.le_of_ble_eq_true rfl) dL_law_428 ⟨kroom2 hcs.1 (Nat.le_of_ble_eq_true rfl), kroom2 hcs.2 (Nat.le_of_ble_eq_true rfl)⟩ (cN := cells + 1) (sN := slots + 6) ⟨rfl, rfl⟩ (fun H locs G => ?_)
    refine lv_iload F.1 F.2.1 dL_law_431 (lv_at hl 1 rfl) ?_
    refine lv_icmp_eq (tgt := 438) F.1 F.2.1 dL_law_433 (by decide) (fun c => ?_) (fun c => absurd hthr c)
    refine lv_iload F.1 F.2.1 dL_law_438 (lv_at hl 1 rfl) ?_
    refine lv_if_ne (tgt := 455) F.1 F.2.1 dL_law_440 (by decide) (fun c => ?_) (fun c => absurd c (by decide))
    refine lv_goto (tgt := 1909) F.1 F.2.1 dL_law_455 (by decide) ?_
    exact kk txR ps nm v vn hs ww out zR _ _ _ hS G (lv_sub hl [2, 3, 4, 5, 6] rfl)
set_option maxHeartbeats 8000000 in
set_option maxRecDepth 100000 in
theorem lc_count {Sim : (Nat → Nat → Int32) → (Nat → Nat → Int32) → (Nat → Int64) → (Nat → Nat → Int32) → (Nat → Int64) → (Nat → Nat → Int32) → (Nat → Nat → Nat → Int32) → (Nat → Nat → Int32) → Prop} (Hs : St_count Sim) (hst : l.stackTraces = false) (F : CallFix p m c code 9 s args kAll RL) (hAL : ∀ w ∈ kAL, w.before args s = true) (hr : meth.sig.returnType = ret) (hlk : meth.locks = false) (hX : va_X b L xs s s.heap) (hbl : b < s.heap.size) (hbA : ¬ A b) {x4 : Int32} (hi1 : vp_in (x4 + 1) L) (hi2 : vp_in (x4 + 2) L) (hi3 : vp_in (x4 + 3) L) (hi4 : vp_in (x4 + 4) L) (hi5 : vp_in (x4 + 5) L) (hcs : cells + 2 ≤ 601024 ∧ slots + 12 ≤ 7293034) (hS : Sim tx ps nm v vn hs ww z)
    (kk : ∀ (tx : Nat → Nat → Int32) (ps : Nat → Nat → Int32) (nm : Nat → Int64) (v : Nat → Nat → Int32) (vn : Nat → Int64) (hs : Nat → Nat → Int32) (ww : Nat → Nat → Nat → Int32) (out : Nat → Int64) (z : Nat → Nat → Int32) (H : Heap) (locs : List Loc) (ls : Array Slot), Sim tx ps nm v vn hs ww z → Rg D T A s (gL T aF aR aD aP aH aW aO aM tx ps nm v vn hs ww out z) H locs → lv_has ls 9 [(4, .int x4), (3, .ref aO), (2, .ref (aM 0)), (1, .ref (aF 0)), (0, .ref b)] → W p l e room_1 s m args below meth c H locs (cells + 1) (slots + 6) Q (F0 m 1909 ls []))
    (G : Rg D T A s (gL T aF aR aD aP aH aW aO aM tx ps nm v vn hs ww out z) H locs) (hl : lv_has ls 9 [(4, .int x4), (3, .ref aO), (2, .ref (aM 0)), (1, .ref (aF 0)), (0, .ref b)]) : W p l e room_1 s m args below meth c H locs cells slots Q (F0 m 458 ls []) := by
  refine lv_aload_n F.1 F.2.1 dL_law_458 rfl (lv_at hl 3 rfl) ?_
  refine lv_aload_n F.1 F.2.1 dL_law_459 rfl (lv_at hl 4 rfl) ?_
  refine lv_iload F.1 F.2.1 dL_law_460 (lv_at hl 0 rfl) ?_
  refine lv_iconst (v := 1) F.1 F.2.1 dL_law_462 (by decide) ?_
  refine lv_iadd F.1 F.2.1 dL_law_463 ?_
  refine va_sld F.1 F.2.1 hX hbl hbA G.2.2.2.1 hi1 dL_law_464 ?_
  refine lv_aload_n F.1 F.2.1 dL_law_465 rfl (lv_at hl 1 rfl) ?_
  obtain ⟨e, r, b', zR, h1, h2, hd, hSR⟩ := Hs tx ps nm v vn hs ww z hS (xs (x4 + 1).toNatClampNeg)
  rcases hd with ⟨rfl, hz, rfl⟩ | ⟨rfl, hz⟩
  · have hthr : zR 0 0 = 0 := hz
    refine kl_callSW (rv := some (.int 0)) (Wc := gO T aF aR aD aP aH aW aO tx ps nm v vn hs ww out) (W2 := gO T aF aR aD aP aH aW aO tx ps nm v vn hs ww (vp_updL out 0 r.toInt64)) (Wn := gL T aF aR aD aP aH aW aO aM tx ps nm v vn hs ww (vp_updL out 0 r.toInt64) z) (As := [.ref (aF 0), .int (xs (x4 + 1).toNatClampNeg), .ref aO]) (rest := []) F G (mL_count l hst D T aF aR aD aP aH aW aO tx ps nm v vn hs ww out (xs (x4 + 1).toNatClampNeg) (k := 0) (outR := (vp_updL out 0 r.toInt64)) h1 (Or.inl ⟨rfl, rfl, rfl⟩)) (vx_cwSW 3 hAL (kgL_c kLl122 (kgL_c kLl123 (kgL_c kLl84 (kgL_c kLl124 kgL_a)))) rfl rfl rfl (by decide +kernel) ⟨Nat.le_of_ble_eq_true rfl, Nat.le_of_ble_eq_true rfl⟩) (kCut_LO G) rfl hl.1 rfl (Nat.le_of_ble_eq_true rfl) dL_law_466 ⟨kroom1 hcs.1 (Nat.le_of_ble_eq_true rfl), kroom1 hcs.2 (Nat.le_of_ble_eq_true rfl)⟩ (cN := cells + 1) (sN := slots + 6) ⟨rfl, rfl⟩ (fun H locs G => ?_)
    have hcmp : lg_cmp ((vp_updL out 0 r.toInt64) (0 : Int32).toNatClampNeg) r.toInt64 = 0 := lg_same _ _
    refine lv_istore (lv' := [(5, .int 0), (4, .int x4), (3, .ref aO), (2, .ref (aM 0)), (1, .ref (aF 0)), (0, .ref b)]) F.1 F.2.1 dL_law_469 hl (by decide) rfl (fun ls hl => ?_)
    refine lv_aload_n F.1 F.2.1 dL_law_471 rfl (lv_at hl 3 rfl) ?_
    refine lv_aload_n F.1 F.2.1 dL_law_472 rfl (lv_at hl 5 rfl) ?_
    refine lv_iload F.1 F.2.1 dL_law_473 (lv_at hl 1 rfl) ?_
    refine lv_iconst (v := 1) F.1 F.2.1 dL_law_475 (by decide) ?_
    refine lv_iadd F.1 F.2.1 dL_law_476 ?_
    refine va_sld F.1 F.2.1 hX hbl hbA G.2.2.2.1 hi1 dL_law_477 ?_
    refine k_callVR (rv := _) (Wc := gM T aM z) (W2 := gM T aM zR) (Wn := gL T aF aR aD aP aH aW aO aM tx ps nm v vn hs ww (vp_updL out 0 r.toInt64) zR) (As := [.int (xs (x4 + 1).toNatClampNeg)]) (rest := []) F G (mX11_count l D T aM z (xs (x4 + 1).toNatClampNeg) h2) (cwV 1 hAL (kgL_c kLl125 (kgL_c kLl126 (kgL_c kLl127 (kgL_c (kA kl788) (kgL_c (kA kl985) kgL_k))))) rfl rfl rfl (by decide +kernel) ⟨Nat.le_of_ble_eq_true rfl, Nat.le_of_ble_eq_true rfl⟩) (kg_recv G 0 0 (by decide) rfl (q := (RX11, TX11, 35)) rfl) (kCut_LM G) rfl hl.1 rfl (Nat.le_of_ble_eq_true rfl) dL_law_478 ⟨kroom2 hcs.1 (Nat.le_of_ble_eq_true rfl), kroom2 hcs.2 (Nat.le_of_ble_eq_true rfl)⟩ (cN := cells + 1) (sN := slots + 6) ⟨rfl, rfl⟩ (fun H locs G => ?_)
    have hS := hSR
    refine lv_istore (lv' := [(6, .int r), (5, .int 0), (4, .int x4), (3, .ref aO), (2, .ref (aM 0)), (1, .ref (aF 0)), (0, .ref b)]) F.1 F.2.1 dL_law_481 hl (by decide) rfl (fun ls hl => ?_)
    refine lv_aload_n F.1 F.2.1 dL_law_483 rfl (lv_at hl 4 rfl) ?_
    refine k_callVR (rv := (some (.int (zR 0 0)))) (Wc := gM T aM zR) (W2 := gM T aM zR) (Wn := gL T aF aR aD aP aH aW aO aM tx ps nm v vn hs ww (vp_updL out 0 r.toInt64) zR) (As := []) (rest := []) F G (mX11_thrown l D T aM zR rfl) (cwV 0 hAL (kgL_c kLl89 (kgL_c kLl90 (kgL_c kLl91 (kgL_c (kA kl788) (kgL_c (kA kl803) kgL_k))))) rfl rfl rfl (by decide +kernel) ⟨Nat.le_of_ble_eq_true rfl, Nat.le_of_ble_eq_true rfl⟩) (kg_recv G 0 0 (by decide) rfl (q := (RX11, TX11, 35)) rfl) (kCut_LM G) rfl hl.1 rfl (Nat.le_of_ble_eq_true rfl) dL_law_484 ⟨kroom2 hcs.1 (Nat.le_of_ble_eq_true rfl), kroom2 hcs.2 (Nat.le_of_ble_eq_true rfl)⟩ (cN := cells + 1) (sN := slots + 6) ⟨rfl, rfl⟩ (fun H locs G => ?_)
    refine lv_iload F.1 F.2.1 dL_law_487 (lv_at hl 1 rfl) ?_
    refine lv_icmp_eq (tgt := 494) F.1 F.2.1 dL_law_489 (by decide) (fun c => ?_) (fun c => absurd hthr c)
    refine lv_iload F.1 F.2.1 dL_law_494 (lv_at hl 1 rfl) ?_
    refine lv_if_ne (tgt := 511) F.1 F.2.1 dL_law_496 (by decide) (fun c => absurd (by decide) c) (fun c => ?_)
    refine lv_aload_n F.1 F.2.1 dL_law_499 rfl (lv_at hl 3 rfl) ?_
    refine lv_iconst (v := 0) F.1 F.2.1 dL_law_500 (by decide) ?_
    refine kg_lald F G 1 0 (by decide) rfl (i := 0) (kin (by decide +kernel)) dL_law_501 ?_
    refine lv_iload F.1 F.2.1 dL_law_502 (lv_at hl 0 rfl) ?_
    refine lv_i2l (v := r.toInt64) F.1 F.2.1 dL_law_504 rfl ?_
    refine W.lcmp F.1 F.2.1 dL_law_505 ?_
    refine lv_if_eq (tgt := 511) F.1 F.2.1 dL_law_506 (by decide) (fun c => ?_) (fun c => absurd hcmp c)
    refine lv_goto (tgt := 1909) F.1 F.2.1 dL_law_511 (by decide) ?_
    exact kk tx ps nm v vn hs ww (vp_updL out 0 r.toInt64) zR _ _ _ hS G (lv_sub hl [2, 3, 4, 5, 6] rfl)
  · have hthr : zR 0 0 = 1 := hz
    refine kl_callSW (rv := some (.int 1)) (Wc := gO T aF aR aD aP aH aW aO tx ps nm v vn hs ww out) (W2 := gO T aF aR aD aP aH aW aO tx ps nm v vn hs ww out) (Wn := gL T aF aR aD aP aH aW aO aM tx ps nm v vn hs ww out z) (As := [.ref (aF 0), .int (xs (x4 + 1).toNatClampNeg), .ref aO]) (rest := []) F G (mL_count l hst D T aF aR aD aP aH aW aO tx ps nm v vn hs ww out (xs (x4 + 1).toNatClampNeg) (k := 1) (outR := out) h1 (Or.inr ⟨rfl, rfl, rfl⟩)) (vx_cwSW 3 hAL (kgL_c kLl122 (kgL_c kLl123 (kgL_c kLl84 (kgL_c kLl124 kgL_a)))) rfl rfl rfl (by decide +kernel) ⟨Nat.le_of_ble_eq_true rfl, Nat.le_of_ble_eq_true rfl⟩) (kCut_LO G) rfl hl.1 rfl (Nat.le_of_ble_eq_true rfl) dL_law_466 ⟨kroom1 hcs.1 (Nat.le_of_ble_eq_true rfl), kroom1 hcs.2 (Nat.le_of_ble_eq_true rfl)⟩ (cN := cells + 1) (sN := slots + 6) ⟨rfl, rfl⟩ (fun H locs G => ?_)
    refine lv_istore (lv' := [(5, .int 1), (4, .int x4), (3, .ref aO), (2, .ref (aM 0)), (1, .ref (aF 0)), (0, .ref b)]) F.1 F.2.1 dL_law_469 hl (by decide) rfl (fun ls hl => ?_)
    refine lv_aload_n F.1 F.2.1 dL_law_471 rfl (lv_at hl 3 rfl) ?_
    refine lv_aload_n F.1 F.2.1 dL_law_472 rfl (lv_at hl 5 rfl) ?_
    refine lv_iload F.1 F.2.1 dL_law_473 (lv_at hl 1 rfl) ?_
    refine lv_iconst (v := 1) F.1 F.2.1 dL_law_475 (by decide) ?_
    refine lv_iadd F.1 F.2.1 dL_law_476 ?_
    refine va_sld F.1 F.2.1 hX hbl hbA G.2.2.2.1 hi1 dL_law_477 ?_
    refine k_callVR (rv := _) (Wc := gM T aM z) (W2 := gM T aM zR) (Wn := gL T aF aR aD aP aH aW aO aM tx ps nm v vn hs ww out zR) (As := [.int (xs (x4 + 1).toNatClampNeg)]) (rest := []) F G (mX11_count l D T aM z (xs (x4 + 1).toNatClampNeg) h2) (cwV 1 hAL (kgL_c kLl125 (kgL_c kLl126 (kgL_c kLl127 (kgL_c (kA kl788) (kgL_c (kA kl985) kgL_k))))) rfl rfl rfl (by decide +kernel) ⟨Nat.le_of_ble_eq_true rfl, Nat.le_of_ble_eq_true rfl⟩) (kg_recv G 0 0 (by decide) rfl (q := (RX11, TX11, 35)) rfl) (kCut_LM G) rfl hl.1 rfl (Nat.le_of_ble_eq_true rfl) dL_law_478 ⟨kroom2 hcs.1 (Nat.le_of_ble_eq_true rfl), kroom2 hcs.2 (Nat.le_of_ble_eq_true rfl)⟩ (cN := cells + 1) (sN := slots + 6) ⟨rfl, rfl⟩ (fun H locs G => ?_)
    have hS := hSR
    refine lv_istore (lv' := [(6, .int b'), (5, .int 1), (4, .int x4), (3, .ref aO), (2, .ref (aM 0)), (1, .ref (aF 0)), (0, .ref b)]) F.1 F.2.1 dL_law_481 hl (by decide) rfl (fun ls hl => ?_)
    refine lv_aload_n F.1 F.2.1 dL_law_483 rfl (lv_at hl 4 rfl) ?_
    refine k_callVR (rv := (some (.int (zR 0 0)))) (Wc := gM T aM zR) (W2 := gM T aM zR) (Wn := gL T aF aR aD aP aH aW aO aM tx ps nm v vn hs ww out zR) (As := []) (rest := []) F G (mX11_thrown l D T aM zR rfl) (cwV 0 hAL (kgL_c kLl89 (kgL_c kLl90 (kgL_c kLl91 (kgL_c (kA kl788) (kgL_c (kA kl803) kgL_k))))) rfl rfl rfl (by decide +kernel) ⟨Nat.le_of_ble_eq_true rfl, Nat.le_of_ble_eq_true rfl⟩) (kg_recv G 0 0 (by decide) rfl (q := (RX11, TX11, 35)) rfl) (kCut_LM G) rfl hl.1 rfl (Nat.le_of_ble_eq_true rfl) dL_law_484 ⟨kroom2 hcs.1 (Nat.le_of_ble_eq_true rfl), kroom2 hcs.2 (Nat.le_of_ble_eq_true rfl)⟩ (cN := cells + 1) (sN := slots + 6) ⟨rfl, rfl⟩ (fun H locs G => ?_)
    refine lv_iload F.1 F.2.1 dL_law_487 (lv_at hl 1 rfl) ?_
    refine lv_icmp_eq (tgt := 494) F.1 F.2.1 dL_law_489 (by decide) (fun c => ?_) (fun c => absurd hthr c)
    refine lv_iload F.1 F.2.1 dL_law_494 (lv_at hl 1 rfl) ?_
    refine lv_if_ne (tgt := 511) F.1 F.2.1 dL_law_496 (by decide) (fun c => ?_) (fun c => absurd c (by decide))
    refine lv_goto (tgt := 1909) F.1 F.2.1 dL_law_511 (by decide) ?_
    exact kk tx ps nm v vn hs ww out zR _ _ _ hS G (lv_sub hl [2, 3, 4, 5, 6] rfl)
set_option maxHeartbeats 8000000 in
set_option maxRecDepth 100000 in
theorem lc_outlet {Sim : (Nat → Nat → Int32) → (Nat → Nat → Int32) → (Nat → Int64) → (Nat → Nat → Int32) → (Nat → Int64) → (Nat → Nat → Int32) → (Nat → Nat → Nat → Int32) → (Nat → Nat → Int32) → Prop} (Hs : St_outlet Sim) (hst : l.stackTraces = false) (F : CallFix p m c code 9 s args kAll RL) (hAL : ∀ w ∈ kAL, w.before args s = true) (hr : meth.sig.returnType = ret) (hlk : meth.locks = false) (hX : va_X b L xs s s.heap) (hbl : b < s.heap.size) (hbA : ¬ A b) {x4 : Int32} (hi1 : vp_in (x4 + 1) L) (hi2 : vp_in (x4 + 2) L) (hi3 : vp_in (x4 + 3) L) (hi4 : vp_in (x4 + 4) L) (hi5 : vp_in (x4 + 5) L) (hcs : cells + 2 ≤ 601024 ∧ slots + 12 ≤ 7293034) (hS : Sim tx ps nm v vn hs ww z)
    (kk : ∀ (tx : Nat → Nat → Int32) (ps : Nat → Nat → Int32) (nm : Nat → Int64) (v : Nat → Nat → Int32) (vn : Nat → Int64) (hs : Nat → Nat → Int32) (ww : Nat → Nat → Nat → Int32) (out : Nat → Int64) (z : Nat → Nat → Int32) (H : Heap) (locs : List Loc) (ls : Array Slot), Sim tx ps nm v vn hs ww z → Rg D T A s (gL T aF aR aD aP aH aW aO aM tx ps nm v vn hs ww out z) H locs → lv_has ls 9 [(4, .int x4), (3, .ref aO), (2, .ref (aM 0)), (1, .ref (aF 0)), (0, .ref b)] → W p l e room_1 s m args below meth c H locs (cells + 2) (slots + 12) Q (F0 m 1909 ls []))
    (G : Rg D T A s (gL T aF aR aD aP aH aW aO aM tx ps nm v vn hs ww out z) H locs) (hl : lv_has ls 9 [(4, .int x4), (3, .ref aO), (2, .ref (aM 0)), (1, .ref (aF 0)), (0, .ref b)]) : W p l e room_1 s m args below meth c H locs cells slots Q (F0 m 514 ls []) := by
  refine lv_aload_n F.1 F.2.1 dL_law_514 rfl (lv_at hl 3 rfl) ?_
  refine lv_aload_n F.1 F.2.1 dL_law_515 rfl (lv_at hl 4 rfl) ?_
  refine lv_iload F.1 F.2.1 dL_law_516 (lv_at hl 0 rfl) ?_
  refine lv_iconst (v := 1) F.1 F.2.1 dL_law_518 (by decide) ?_
  refine lv_iadd F.1 F.2.1 dL_law_519 ?_
  refine va_sld F.1 F.2.1 hX hbl hbA G.2.2.2.1 hi1 dL_law_520 ?_
  refine lv_aload_n F.1 F.2.1 dL_law_521 rfl (lv_at hl 4 rfl) ?_
  refine lv_iload F.1 F.2.1 dL_law_522 (lv_at hl 0 rfl) ?_
  refine lv_iconst (v := 2) F.1 F.2.1 dL_law_524 (by decide) ?_
  refine lv_iadd F.1 F.2.1 dL_law_525 ?_
  refine va_sld F.1 F.2.1 hX hbl hbA G.2.2.2.1 hi2 dL_law_526 ?_
  refine lv_aload_n F.1 F.2.1 dL_law_527 rfl (lv_at hl 1 rfl) ?_
  obtain ⟨e, r, b', zR, h1, h2, hd, hSR⟩ := Hs tx ps nm v vn hs ww z hS (xs (x4 + 1).toNatClampNeg) (xs (x4 + 2).toNatClampNeg)
  rcases hd with ⟨rfl, hz, rfl⟩ | ⟨rfl, hz⟩ | ⟨rfl, hz⟩
  · have hthr : zR 0 0 = 0 := hz
    refine kl_callSW (rv := some (.int 0)) (Wc := gO T aF aR aD aP aH aW aO tx ps nm v vn hs ww out) (W2 := gO T aF aR aD aP aH aW aO tx ps nm v vn hs ww (vp_updL out 0 r.toInt64)) (Wn := gL T aF aR aD aP aH aW aO aM tx ps nm v vn hs ww (vp_updL out 0 r.toInt64) z) (As := [.ref (aF 0), .int (xs (x4 + 1).toNatClampNeg), .int (xs (x4 + 2).toNatClampNeg), .ref aO]) (rest := []) F G (mL_outlet l hst D T aF aR aD aP aH aW aO tx ps nm v vn hs ww out (xs (x4 + 1).toNatClampNeg) (xs (x4 + 2).toNatClampNeg) (k := 0) (outR := (vp_updL out 0 r.toInt64)) h1 (Or.inl ⟨rfl, rfl, rfl⟩)) (vx_cwSW 4 hAL (kgL_c kLl128 (kgL_c kLl129 (kgL_c kLl84 (kgL_c kLl130 kgL_a)))) rfl rfl rfl (by decide +kernel) ⟨Nat.le_of_ble_eq_true rfl, Nat.le_of_ble_eq_true rfl⟩) (kCut_LO G) rfl hl.1 rfl (Nat.le_of_ble_eq_true rfl) dL_law_528 ⟨kroom1 hcs.1 (Nat.le_of_ble_eq_true rfl), kroom1 hcs.2 (Nat.le_of_ble_eq_true rfl)⟩ (cN := cells + 2) (sN := slots + 12) ⟨rfl, rfl⟩ (fun H locs G => ?_)
    have hcmp : lg_cmp ((vp_updL out 0 r.toInt64) (0 : Int32).toNatClampNeg) r.toInt64 = 0 := lg_same _ _
    refine lv_istore (lv' := [(5, .int 0), (4, .int x4), (3, .ref aO), (2, .ref (aM 0)), (1, .ref (aF 0)), (0, .ref b)]) F.1 F.2.1 dL_law_531 hl (by decide) rfl (fun ls hl => ?_)
    refine lv_aload_n F.1 F.2.1 dL_law_533 rfl (lv_at hl 3 rfl) ?_
    refine lv_aload_n F.1 F.2.1 dL_law_534 rfl (lv_at hl 5 rfl) ?_
    refine lv_iload F.1 F.2.1 dL_law_535 (lv_at hl 1 rfl) ?_
    refine lv_iconst (v := 1) F.1 F.2.1 dL_law_537 (by decide) ?_
    refine lv_iadd F.1 F.2.1 dL_law_538 ?_
    refine va_sld F.1 F.2.1 hX hbl hbA G.2.2.2.1 hi1 dL_law_539 ?_
    refine lv_aload_n F.1 F.2.1 dL_law_540 rfl (lv_at hl 5 rfl) ?_
    refine lv_iload F.1 F.2.1 dL_law_541 (lv_at hl 1 rfl) ?_
    refine lv_iconst (v := 2) F.1 F.2.1 dL_law_543 (by decide) ?_
    refine lv_iadd F.1 F.2.1 dL_law_544 ?_
    refine va_sld F.1 F.2.1 hX hbl hbA G.2.2.2.1 hi2 dL_law_545 ?_
    refine k_callVR (rv := _) (Wc := gM T aM z) (W2 := gM T aM zR) (Wn := gL T aF aR aD aP aH aW aO aM tx ps nm v vn hs ww (vp_updL out 0 r.toInt64) zR) (As := [.int (xs (x4 + 1).toNatClampNeg), .int (xs (x4 + 2).toNatClampNeg)]) (rest := []) F G (mX11_outlet l D T aM z (xs (x4 + 1).toNatClampNeg) (xs (x4 + 2).toNatClampNeg) h2) (cwV 2 hAL (kgL_c kLl131 (kgL_c kLl132 (kgL_c kLl133 (kgL_c (kA kl788) (kgL_c (kA kl987) kgL_k))))) rfl rfl rfl (by decide +kernel) ⟨Nat.le_of_ble_eq_true rfl, Nat.le_of_ble_eq_true rfl⟩) (kg_recv G 0 0 (by decide) rfl (q := (RX11, TX11, 35)) rfl) (kCut_LM G) rfl hl.1 rfl (Nat.le_of_ble_eq_true rfl) dL_law_546 ⟨kroom2 hcs.1 (Nat.le_of_ble_eq_true rfl), kroom2 hcs.2 (Nat.le_of_ble_eq_true rfl)⟩ (cN := cells + 2) (sN := slots + 12) ⟨rfl, rfl⟩ (fun H locs G => ?_)
    have hS := hSR
    refine lv_istore (lv' := [(6, .int r), (5, .int 0), (4, .int x4), (3, .ref aO), (2, .ref (aM 0)), (1, .ref (aF 0)), (0, .ref b)]) F.1 F.2.1 dL_law_549 hl (by decide) rfl (fun ls hl => ?_)
    refine lv_aload_n F.1 F.2.1 dL_law_551 rfl (lv_at hl 4 rfl) ?_
    refine k_callVR (rv := (some (.int (zR 0 0)))) (Wc := gM T aM zR) (W2 := gM T aM zR) (Wn := gL T aF aR aD aP aH aW aO aM tx ps nm v vn hs ww (vp_updL out 0 r.toInt64) zR) (As := []) (rest := []) F G (mX11_thrown l D T aM zR rfl) (cwV 0 hAL (kgL_c kLl89 (kgL_c kLl90 (kgL_c kLl91 (kgL_c (kA kl788) (kgL_c (kA kl803) kgL_k))))) rfl rfl rfl (by decide +kernel) ⟨Nat.le_of_ble_eq_true rfl, Nat.le_of_ble_eq_true rfl⟩) (kg_recv G 0 0 (by decide) rfl (q := (RX11, TX11, 35)) rfl) (kCut_LM G) rfl hl.1 rfl (Nat.le_of_ble_eq_true rfl) dL_law_552 ⟨kroom2 hcs.1 (Nat.le_of_ble_eq_true rfl), kroom2 hcs.2 (Nat.le_of_ble_eq_true rfl)⟩ (cN := cells + 2) (sN := slots + 12) ⟨rfl, rfl⟩ (fun H locs G => ?_)
    refine lv_iload F.1 F.2.1 dL_law_555 (lv_at hl 1 rfl) ?_
    refine lv_icmp_eq (tgt := 562) F.1 F.2.1 dL_law_557 (by decide) (fun c => ?_) (fun c => absurd hthr c)
    refine lv_iload F.1 F.2.1 dL_law_562 (lv_at hl 1 rfl) ?_
    refine lv_if_ne (tgt := 579) F.1 F.2.1 dL_law_564 (by decide) (fun c => absurd (by decide) c) (fun c => ?_)
    refine lv_aload_n F.1 F.2.1 dL_law_567 rfl (lv_at hl 3 rfl) ?_
    refine lv_iconst (v := 0) F.1 F.2.1 dL_law_568 (by decide) ?_
    refine kg_lald F G 1 0 (by decide) rfl (i := 0) (kin (by decide +kernel)) dL_law_569 ?_
    refine lv_iload F.1 F.2.1 dL_law_570 (lv_at hl 0 rfl) ?_
    refine lv_i2l (v := r.toInt64) F.1 F.2.1 dL_law_572 rfl ?_
    refine W.lcmp F.1 F.2.1 dL_law_573 ?_
    refine lv_if_eq (tgt := 579) F.1 F.2.1 dL_law_574 (by decide) (fun c => ?_) (fun c => absurd hcmp c)
    refine lv_goto (tgt := 1909) F.1 F.2.1 dL_law_579 (by decide) ?_
    exact kk tx ps nm v vn hs ww (vp_updL out 0 r.toInt64) zR _ _ _ hS G (lv_sub hl [2, 3, 4, 5, 6] rfl)
  · have hthr : zR 0 0 = 1 := hz
    refine kl_callSW (rv := some (.int 1)) (Wc := gO T aF aR aD aP aH aW aO tx ps nm v vn hs ww out) (W2 := gO T aF aR aD aP aH aW aO tx ps nm v vn hs ww out) (Wn := gL T aF aR aD aP aH aW aO aM tx ps nm v vn hs ww out z) (As := [.ref (aF 0), .int (xs (x4 + 1).toNatClampNeg), .int (xs (x4 + 2).toNatClampNeg), .ref aO]) (rest := []) F G (mL_outlet l hst D T aF aR aD aP aH aW aO tx ps nm v vn hs ww out (xs (x4 + 1).toNatClampNeg) (xs (x4 + 2).toNatClampNeg) (k := 1) (outR := out) h1 (Or.inr (Or.inl ⟨rfl, rfl, rfl⟩))) (vx_cwSW 4 hAL (kgL_c kLl128 (kgL_c kLl129 (kgL_c kLl84 (kgL_c kLl130 kgL_a)))) rfl rfl rfl (by decide +kernel) ⟨Nat.le_of_ble_eq_true rfl, Nat.le_of_ble_eq_true rfl⟩) (kCut_LO G) rfl hl.1 rfl (Nat.le_of_ble_eq_true rfl) dL_law_528 ⟨kroom1 hcs.1 (Nat.le_of_ble_eq_true rfl), kroom1 hcs.2 (Nat.le_of_ble_eq_true rfl)⟩ (cN := cells + 2) (sN := slots + 12) ⟨rfl, rfl⟩ (fun H locs G => ?_)
    refine lv_istore (lv' := [(5, .int 1), (4, .int x4), (3, .ref aO), (2, .ref (aM 0)), (1, .ref (aF 0)), (0, .ref b)]) F.1 F.2.1 dL_law_531 hl (by decide) rfl (fun ls hl => ?_)
    refine lv_aload_n F.1 F.2.1 dL_law_533 rfl (lv_at hl 3 rfl) ?_
    refine lv_aload_n F.1 F.2.1 dL_law_534 rfl (lv_at hl 5 rfl) ?_
    refine lv_iload F.1 F.2.1 dL_law_535 (lv_at hl 1 rfl) ?_
    refine lv_iconst (v := 1) F.1 F.2.1 dL_law_537 (by decide) ?_
    refine lv_iadd F.1 F.2.1 dL_law_538 ?_
    refine va_sld F.1 F.2.1 hX hbl hbA G.2.2.2.1 hi1 dL_law_539 ?_
    refine lv_aload_n F.1 F.2.1 dL_law_540 rfl (lv_at hl 5 rfl) ?_
    refine lv_iload F.1 F.2.1 dL_law_541 (lv_at hl 1 rfl) ?_
    refine lv_iconst (v := 2) F.1 F.2.1 dL_law_543 (by decide) ?_
    refine lv_iadd F.1 F.2.1 dL_law_544 ?_
    refine va_sld F.1 F.2.1 hX hbl hbA G.2.2.2.1 hi2 dL_law_545 ?_
    refine k_callVR (rv := _) (Wc := gM T aM z) (W2 := gM T aM zR) (Wn := gL T aF aR aD aP aH aW aO aM tx ps nm v vn hs ww out zR) (As := [.int (xs (x4 + 1).toNatClampNeg), .int (xs (x4 + 2).toNatClampNeg)]) (rest := []) F G (mX11_outlet l D T aM z (xs (x4 + 1).toNatClampNeg) (xs (x4 + 2).toNatClampNeg) h2) (cwV 2 hAL (kgL_c kLl131 (kgL_c kLl132 (kgL_c kLl133 (kgL_c (kA kl788) (kgL_c (kA kl987) kgL_k))))) rfl rfl rfl (by decide +kernel) ⟨Nat.le_of_ble_eq_true rfl, Nat.le_of_ble_eq_true rfl⟩) (kg_recv G 0 0 (by decide) rfl (q := (RX11, TX11, 35)) rfl) (kCut_LM G) rfl hl.1 rfl (Nat.le_of_ble_eq_true rfl) dL_law_546 ⟨kroom2 hcs.1 (Nat.le_of_ble_eq_true rfl), kroom2 hcs.2 (Nat.le_of_ble_eq_true rfl)⟩ (cN := cells + 2) (sN := slots + 12) ⟨rfl, rfl⟩ (fun H locs G => ?_)
    have hS := hSR
    refine lv_istore (lv' := [(6, .int b'), (5, .int 1), (4, .int x4), (3, .ref aO), (2, .ref (aM 0)), (1, .ref (aF 0)), (0, .ref b)]) F.1 F.2.1 dL_law_549 hl (by decide) rfl (fun ls hl => ?_)
    refine lv_aload_n F.1 F.2.1 dL_law_551 rfl (lv_at hl 4 rfl) ?_
    refine k_callVR (rv := (some (.int (zR 0 0)))) (Wc := gM T aM zR) (W2 := gM T aM zR) (Wn := gL T aF aR aD aP aH aW aO aM tx ps nm v vn hs ww out zR) (As := []) (rest := []) F G (mX11_thrown l D T aM zR rfl) (cwV 0 hAL (kgL_c kLl89 (kgL_c kLl90 (kgL_c kLl91 (kgL_c (kA kl788) (kgL_c (kA kl803) kgL_k))))) rfl rfl rfl (by decide +kernel) ⟨Nat.le_of_ble_eq_true rfl, Nat.le_of_ble_eq_true rfl⟩) (kg_recv G 0 0 (by decide) rfl (q := (RX11, TX11, 35)) rfl) (kCut_LM G) rfl hl.1 rfl (Nat.le_of_ble_eq_true rfl) dL_law_552 ⟨kroom2 hcs.1 (Nat.le_of_ble_eq_true rfl), kroom2 hcs.2 (Nat.le_of_ble_eq_true rfl)⟩ (cN := cells + 2) (sN := slots + 12) ⟨rfl, rfl⟩ (fun H locs G => ?_)
    refine lv_iload F.1 F.2.1 dL_law_555 (lv_at hl 1 rfl) ?_
    refine lv_icmp_eq (tgt := 562) F.1 F.2.1 dL_law_557 (by decide) (fun c => ?_) (fun c => absurd hthr c)
    refine lv_iload F.1 F.2.1 dL_law_562 (lv_at hl 1 rfl) ?_
    refine lv_if_ne (tgt := 579) F.1 F.2.1 dL_law_564 (by decide) (fun c => ?_) (fun c => absurd c (by decide))
    refine lv_goto (tgt := 1909) F.1 F.2.1 dL_law_579 (by decide) ?_
    exact kk tx ps nm v vn hs ww out zR _ _ _ hS G (lv_sub hl [2, 3, 4, 5, 6] rfl)
  · have hthr : zR 0 0 = 2 := hz
    refine kl_callSW (rv := some (.int 2)) (Wc := gO T aF aR aD aP aH aW aO tx ps nm v vn hs ww out) (W2 := gO T aF aR aD aP aH aW aO tx ps nm v vn hs ww out) (Wn := gL T aF aR aD aP aH aW aO aM tx ps nm v vn hs ww out z) (As := [.ref (aF 0), .int (xs (x4 + 1).toNatClampNeg), .int (xs (x4 + 2).toNatClampNeg), .ref aO]) (rest := []) F G (mL_outlet l hst D T aF aR aD aP aH aW aO tx ps nm v vn hs ww out (xs (x4 + 1).toNatClampNeg) (xs (x4 + 2).toNatClampNeg) (k := 2) (outR := out) h1 (Or.inr (Or.inr ⟨rfl, rfl, rfl⟩))) (vx_cwSW 4 hAL (kgL_c kLl128 (kgL_c kLl129 (kgL_c kLl84 (kgL_c kLl130 kgL_a)))) rfl rfl rfl (by decide +kernel) ⟨Nat.le_of_ble_eq_true rfl, Nat.le_of_ble_eq_true rfl⟩) (kCut_LO G) rfl hl.1 rfl (Nat.le_of_ble_eq_true rfl) dL_law_528 ⟨kroom1 hcs.1 (Nat.le_of_ble_eq_true rfl), kroom1 hcs.2 (Nat.le_of_ble_eq_true rfl)⟩ (cN := cells + 2) (sN := slots + 12) ⟨rfl, rfl⟩ (fun H locs G => ?_)
    refine lv_istore (lv' := [(5, .int 2), (4, .int x4), (3, .ref aO), (2, .ref (aM 0)), (1, .ref (aF 0)), (0, .ref b)]) F.1 F.2.1 dL_law_531 hl (by decide) rfl (fun ls hl => ?_)
    refine lv_aload_n F.1 F.2.1 dL_law_533 rfl (lv_at hl 3 rfl) ?_
    refine lv_aload_n F.1 F.2.1 dL_law_534 rfl (lv_at hl 5 rfl) ?_
    refine lv_iload F.1 F.2.1 dL_law_535 (lv_at hl 1 rfl) ?_
    refine lv_iconst (v := 1) F.1 F.2.1 dL_law_537 (by decide) ?_
    refine lv_iadd F.1 F.2.1 dL_law_538 ?_
    refine va_sld F.1 F.2.1 hX hbl hbA G.2.2.2.1 hi1 dL_law_539 ?_
    refine lv_aload_n F.1 F.2.1 dL_law_540 rfl (lv_at hl 5 rfl) ?_
    refine lv_iload F.1 F.2.1 dL_law_541 (lv_at hl 1 rfl) ?_
    refine lv_iconst (v := 2) F.1 F.2.1 dL_law_543 (by decide) ?_
    refine lv_iadd F.1 F.2.1 dL_law_544 ?_
    refine va_sld F.1 F.2.1 hX hbl hbA G.2.2.2.1 hi2 dL_law_545 ?_
    refine k_callVR (rv := _) (Wc := gM T aM z) (W2 := gM T aM zR) (Wn := gL T aF aR aD aP aH aW aO aM tx ps nm v vn hs ww out zR) (As := [.int (xs (x4 + 1).toNatClampNeg), .int (xs (x4 + 2).toNatClampNeg)]) (rest := []) F G (mX11_outlet l D T aM z (xs (x4 + 1).toNatClampNeg) (xs (x4 + 2).toNatClampNeg) h2) (cwV 2 hAL (kgL_c kLl131 (kgL_c kLl132 (kgL_c kLl133 (kgL_c (kA kl788) (kgL_c (kA kl987) kgL_k))))) rfl rfl rfl (by decide +kernel) ⟨Nat.le_of_ble_eq_true rfl, Nat.le_of_ble_eq_true rfl⟩) (kg_recv G 0 0 (by decide) rfl (q := (RX11, TX11, 35)) rfl) (kCut_LM G) rfl hl.1 rfl (Nat.le_of_ble_eq_true rfl) dL_law_546 ⟨kroom2 hcs.1 (Nat.le_of_ble_eq_true rfl), kroom2 hcs.2 (Nat.le_of_ble_eq_true rfl)⟩ (cN := cells + 2) (sN := slots + 12) ⟨rfl, rfl⟩ (fun H locs G => ?_)
    have hS := hSR
    refine lv_istore (lv' := [(6, .int b'), (5, .int 2), (4, .int x4), (3, .ref aO), (2, .ref (aM 0)), (1, .ref (aF 0)), (0, .ref b)]) F.1 F.2.1 dL_law_549 hl (by decide) rfl (fun ls hl => ?_)
    refine lv_aload_n F.1 F.2.1 dL_law_551 rfl (lv_at hl 4 rfl) ?_
    refine k_callVR (rv := (some (.int (zR 0 0)))) (Wc := gM T aM zR) (W2 := gM T aM zR) (Wn := gL T aF aR aD aP aH aW aO aM tx ps nm v vn hs ww out zR) (As := []) (rest := []) F G (mX11_thrown l D T aM zR rfl) (cwV 0 hAL (kgL_c kLl89 (kgL_c kLl90 (kgL_c kLl91 (kgL_c (kA kl788) (kgL_c (kA kl803) kgL_k))))) rfl rfl rfl (by decide +kernel) ⟨Nat.le_of_ble_eq_true rfl, Nat.le_of_ble_eq_true rfl⟩) (kg_recv G 0 0 (by decide) rfl (q := (RX11, TX11, 35)) rfl) (kCut_LM G) rfl hl.1 rfl (Nat.le_of_ble_eq_true rfl) dL_law_552 ⟨kroom2 hcs.1 (Nat.le_of_ble_eq_true rfl), kroom2 hcs.2 (Nat.le_of_ble_eq_true rfl)⟩ (cN := cells + 2) (sN := slots + 12) ⟨rfl, rfl⟩ (fun H locs G => ?_)
    refine lv_iload F.1 F.2.1 dL_law_555 (lv_at hl 1 rfl) ?_
    refine lv_icmp_eq (tgt := 562) F.1 F.2.1 dL_law_557 (by decide) (fun c => ?_) (fun c => absurd hthr c)
    refine lv_iload F.1 F.2.1 dL_law_562 (lv_at hl 1 rfl) ?_
    refine lv_if_ne (tgt := 579) F.1 F.2.1 dL_law_564 (by decide) (fun c => ?_) (fun c => absurd c (by decide))
    refine lv_goto (tgt := 1909) F.1 F.2.1 dL_law_579 (by decide) ?_
    exact kk tx ps nm v vn hs ww out zR _ _ _ hS G (lv_sub hl [2, 3, 4, 5, 6] rfl)
set_option maxHeartbeats 8000000 in
set_option maxRecDepth 100000 in
theorem lc_known {Sim : (Nat → Nat → Int32) → (Nat → Nat → Int32) → (Nat → Int64) → (Nat → Nat → Int32) → (Nat → Int64) → (Nat → Nat → Int32) → (Nat → Nat → Nat → Int32) → (Nat → Nat → Int32) → Prop} (Hs : St_known Sim) (hst : l.stackTraces = false) (F : CallFix p m c code 9 s args kAll RL) (hAL : ∀ w ∈ kAL, w.before args s = true) (hr : meth.sig.returnType = ret) (hlk : meth.locks = false) (hX : va_X b L xs s s.heap) (hbl : b < s.heap.size) (hbA : ¬ A b) {x4 : Int32} (hi1 : vp_in (x4 + 1) L) (hi2 : vp_in (x4 + 2) L) (hi3 : vp_in (x4 + 3) L) (hi4 : vp_in (x4 + 4) L) (hi5 : vp_in (x4 + 5) L) (hcs : cells + 2 ≤ 601024 ∧ slots + 12 ≤ 7293034) (hS : Sim tx ps nm v vn hs ww z)
    (kk : ∀ (tx : Nat → Nat → Int32) (ps : Nat → Nat → Int32) (nm : Nat → Int64) (v : Nat → Nat → Int32) (vn : Nat → Int64) (hs : Nat → Nat → Int32) (ww : Nat → Nat → Nat → Int32) (out : Nat → Int64) (z : Nat → Nat → Int32) (H : Heap) (locs : List Loc) (ls : Array Slot), Sim tx ps nm v vn hs ww z → Rg D T A s (gL T aF aR aD aP aH aW aO aM tx ps nm v vn hs ww out z) H locs → lv_has ls 9 [(4, .int x4), (3, .ref aO), (2, .ref (aM 0)), (1, .ref (aF 0)), (0, .ref b)] → W p l e room_1 s m args below meth c H locs (cells + 2) (slots + 12) Q (F0 m 1909 ls []))
    (G : Rg D T A s (gL T aF aR aD aP aH aW aO aM tx ps nm v vn hs ww out z) H locs) (hl : lv_has ls 9 [(4, .int x4), (3, .ref aO), (2, .ref (aM 0)), (1, .ref (aF 0)), (0, .ref b)]) : W p l e room_1 s m args below meth c H locs cells slots Q (F0 m 582 ls []) := by
  refine lv_aload_n F.1 F.2.1 dL_law_582 rfl (lv_at hl 3 rfl) ?_
  refine lv_aload_n F.1 F.2.1 dL_law_583 rfl (lv_at hl 4 rfl) ?_
  refine lv_iload F.1 F.2.1 dL_law_584 (lv_at hl 0 rfl) ?_
  refine lv_iconst (v := 1) F.1 F.2.1 dL_law_586 (by decide) ?_
  refine lv_iadd F.1 F.2.1 dL_law_587 ?_
  refine va_sld F.1 F.2.1 hX hbl hbA G.2.2.2.1 hi1 dL_law_588 ?_
  refine lv_aload_n F.1 F.2.1 dL_law_589 rfl (lv_at hl 4 rfl) ?_
  refine lv_iload F.1 F.2.1 dL_law_590 (lv_at hl 0 rfl) ?_
  refine lv_iconst (v := 2) F.1 F.2.1 dL_law_592 (by decide) ?_
  refine lv_iadd F.1 F.2.1 dL_law_593 ?_
  refine va_sld F.1 F.2.1 hX hbl hbA G.2.2.2.1 hi2 dL_law_594 ?_
  refine lv_aload_n F.1 F.2.1 dL_law_595 rfl (lv_at hl 1 rfl) ?_
  obtain ⟨e, r, b', zR, h1, h2, hd, hSR⟩ := Hs tx ps nm v vn hs ww z hS (xs (x4 + 1).toNatClampNeg) (xs (x4 + 2).toNatClampNeg)
  rcases hd with ⟨rfl, hz, rfl⟩ | ⟨rfl, hz⟩ | ⟨rfl, hz⟩
  · have hthr : zR 0 0 = 0 := hz
    refine kl_callSW (rv := some (.int 0)) (Wc := gO T aF aR aD aP aH aW aO tx ps nm v vn hs ww out) (W2 := gO T aF aR aD aP aH aW aO tx ps nm v vn hs ww (vp_updL out 0 r.toInt64)) (Wn := gL T aF aR aD aP aH aW aO aM tx ps nm v vn hs ww (vp_updL out 0 r.toInt64) z) (As := [.ref (aF 0), .int (xs (x4 + 1).toNatClampNeg), .int (xs (x4 + 2).toNatClampNeg), .ref aO]) (rest := []) F G (mL_known l hst D T aF aR aD aP aH aW aO tx ps nm v vn hs ww out (xs (x4 + 1).toNatClampNeg) (xs (x4 + 2).toNatClampNeg) (k := 0) (outR := (vp_updL out 0 r.toInt64)) h1 (Or.inl ⟨rfl, rfl, rfl⟩)) (vx_cwSW 4 hAL (kgL_c kLl134 (kgL_c kLl135 (kgL_c kLl84 (kgL_c kLl136 kgL_a)))) rfl rfl rfl (by decide +kernel) ⟨Nat.le_of_ble_eq_true rfl, Nat.le_of_ble_eq_true rfl⟩) (kCut_LO G) rfl hl.1 rfl (Nat.le_of_ble_eq_true rfl) dL_law_596 ⟨kroom1 hcs.1 (Nat.le_of_ble_eq_true rfl), kroom1 hcs.2 (Nat.le_of_ble_eq_true rfl)⟩ (cN := cells + 2) (sN := slots + 12) ⟨rfl, rfl⟩ (fun H locs G => ?_)
    have hcmp : lg_cmp ((vp_updL out 0 r.toInt64) (0 : Int32).toNatClampNeg) r.toInt64 = 0 := lg_same _ _
    refine lv_istore (lv' := [(5, .int 0), (4, .int x4), (3, .ref aO), (2, .ref (aM 0)), (1, .ref (aF 0)), (0, .ref b)]) F.1 F.2.1 dL_law_599 hl (by decide) rfl (fun ls hl => ?_)
    refine lv_aload_n F.1 F.2.1 dL_law_601 rfl (lv_at hl 3 rfl) ?_
    refine lv_aload_n F.1 F.2.1 dL_law_602 rfl (lv_at hl 5 rfl) ?_
    refine lv_iload F.1 F.2.1 dL_law_603 (lv_at hl 1 rfl) ?_
    refine lv_iconst (v := 1) F.1 F.2.1 dL_law_605 (by decide) ?_
    refine lv_iadd F.1 F.2.1 dL_law_606 ?_
    refine va_sld F.1 F.2.1 hX hbl hbA G.2.2.2.1 hi1 dL_law_607 ?_
    refine lv_aload_n F.1 F.2.1 dL_law_608 rfl (lv_at hl 5 rfl) ?_
    refine lv_iload F.1 F.2.1 dL_law_609 (lv_at hl 1 rfl) ?_
    refine lv_iconst (v := 2) F.1 F.2.1 dL_law_611 (by decide) ?_
    refine lv_iadd F.1 F.2.1 dL_law_612 ?_
    refine va_sld F.1 F.2.1 hX hbl hbA G.2.2.2.1 hi2 dL_law_613 ?_
    refine k_callVR (rv := _) (Wc := gM T aM z) (W2 := gM T aM zR) (Wn := gL T aF aR aD aP aH aW aO aM tx ps nm v vn hs ww (vp_updL out 0 r.toInt64) zR) (As := [.int (xs (x4 + 1).toNatClampNeg), .int (xs (x4 + 2).toNatClampNeg)]) (rest := []) F G (mX11_known l D T aM z (xs (x4 + 1).toNatClampNeg) (xs (x4 + 2).toNatClampNeg) h2) (cwV 2 hAL (kgL_c kLl137 (kgL_c kLl138 (kgL_c kLl139 (kgL_c (kA kl788) (kgL_c (kA kl992) kgL_k))))) rfl rfl rfl (by decide +kernel) ⟨Nat.le_of_ble_eq_true rfl, Nat.le_of_ble_eq_true rfl⟩) (kg_recv G 0 0 (by decide) rfl (q := (RX11, TX11, 35)) rfl) (kCut_LM G) rfl hl.1 rfl (Nat.le_of_ble_eq_true rfl) dL_law_614 ⟨kroom2 hcs.1 (Nat.le_of_ble_eq_true rfl), kroom2 hcs.2 (Nat.le_of_ble_eq_true rfl)⟩ (cN := cells + 2) (sN := slots + 12) ⟨rfl, rfl⟩ (fun H locs G => ?_)
    have hS := hSR
    refine lv_istore (lv' := [(6, .int r), (5, .int 0), (4, .int x4), (3, .ref aO), (2, .ref (aM 0)), (1, .ref (aF 0)), (0, .ref b)]) F.1 F.2.1 dL_law_617 hl (by decide) rfl (fun ls hl => ?_)
    refine lv_aload_n F.1 F.2.1 dL_law_619 rfl (lv_at hl 4 rfl) ?_
    refine k_callVR (rv := (some (.int (zR 0 0)))) (Wc := gM T aM zR) (W2 := gM T aM zR) (Wn := gL T aF aR aD aP aH aW aO aM tx ps nm v vn hs ww (vp_updL out 0 r.toInt64) zR) (As := []) (rest := []) F G (mX11_thrown l D T aM zR rfl) (cwV 0 hAL (kgL_c kLl89 (kgL_c kLl90 (kgL_c kLl91 (kgL_c (kA kl788) (kgL_c (kA kl803) kgL_k))))) rfl rfl rfl (by decide +kernel) ⟨Nat.le_of_ble_eq_true rfl, Nat.le_of_ble_eq_true rfl⟩) (kg_recv G 0 0 (by decide) rfl (q := (RX11, TX11, 35)) rfl) (kCut_LM G) rfl hl.1 rfl (Nat.le_of_ble_eq_true rfl) dL_law_620 ⟨kroom2 hcs.1 (Nat.le_of_ble_eq_true rfl), kroom2 hcs.2 (Nat.le_of_ble_eq_true rfl)⟩ (cN := cells + 2) (sN := slots + 12) ⟨rfl, rfl⟩ (fun H locs G => ?_)
    refine lv_iload F.1 F.2.1 dL_law_623 (lv_at hl 1 rfl) ?_
    refine lv_icmp_eq (tgt := 630) F.1 F.2.1 dL_law_625 (by decide) (fun c => ?_) (fun c => absurd hthr c)
    refine lv_iload F.1 F.2.1 dL_law_630 (lv_at hl 1 rfl) ?_
    refine lv_if_ne (tgt := 647) F.1 F.2.1 dL_law_632 (by decide) (fun c => absurd (by decide) c) (fun c => ?_)
    refine lv_aload_n F.1 F.2.1 dL_law_635 rfl (lv_at hl 3 rfl) ?_
    refine lv_iconst (v := 0) F.1 F.2.1 dL_law_636 (by decide) ?_
    refine kg_lald F G 1 0 (by decide) rfl (i := 0) (kin (by decide +kernel)) dL_law_637 ?_
    refine lv_iload F.1 F.2.1 dL_law_638 (lv_at hl 0 rfl) ?_
    refine lv_i2l (v := r.toInt64) F.1 F.2.1 dL_law_640 rfl ?_
    refine W.lcmp F.1 F.2.1 dL_law_641 ?_
    refine lv_if_eq (tgt := 647) F.1 F.2.1 dL_law_642 (by decide) (fun c => ?_) (fun c => absurd hcmp c)
    refine lv_goto (tgt := 1909) F.1 F.2.1 dL_law_647 (by decide) ?_
    exact kk tx ps nm v vn hs ww (vp_updL out 0 r.toInt64) zR _ _ _ hS G (lv_sub hl [2, 3, 4, 5, 6] rfl)
  · have hthr : zR 0 0 = 1 := hz
    refine kl_callSW (rv := some (.int 1)) (Wc := gO T aF aR aD aP aH aW aO tx ps nm v vn hs ww out) (W2 := gO T aF aR aD aP aH aW aO tx ps nm v vn hs ww out) (Wn := gL T aF aR aD aP aH aW aO aM tx ps nm v vn hs ww out z) (As := [.ref (aF 0), .int (xs (x4 + 1).toNatClampNeg), .int (xs (x4 + 2).toNatClampNeg), .ref aO]) (rest := []) F G (mL_known l hst D T aF aR aD aP aH aW aO tx ps nm v vn hs ww out (xs (x4 + 1).toNatClampNeg) (xs (x4 + 2).toNatClampNeg) (k := 1) (outR := out) h1 (Or.inr (Or.inl ⟨rfl, rfl, rfl⟩))) (vx_cwSW 4 hAL (kgL_c kLl134 (kgL_c kLl135 (kgL_c kLl84 (kgL_c kLl136 kgL_a)))) rfl rfl rfl (by decide +kernel) ⟨Nat.le_of_ble_eq_true rfl, Nat.le_of_ble_eq_true rfl⟩) (kCut_LO G) rfl hl.1 rfl (Nat.le_of_ble_eq_true rfl) dL_law_596 ⟨kroom1 hcs.1 (Nat.le_of_ble_eq_true rfl), kroom1 hcs.2 (Nat.le_of_ble_eq_true rfl)⟩ (cN := cells + 2) (sN := slots + 12) ⟨rfl, rfl⟩ (fun H locs G => ?_)
    refine lv_istore (lv' := [(5, .int 1), (4, .int x4), (3, .ref aO), (2, .ref (aM 0)), (1, .ref (aF 0)), (0, .ref b)]) F.1 F.2.1 dL_law_599 hl (by decide) rfl (fun ls hl => ?_)
    refine lv_aload_n F.1 F.2.1 dL_law_601 rfl (lv_at hl 3 rfl) ?_
    refine lv_aload_n F.1 F.2.1 dL_law_602 rfl (lv_at hl 5 rfl) ?_
    refine lv_iload F.1 F.2.1 dL_law_603 (lv_at hl 1 rfl) ?_
    refine lv_iconst (v := 1) F.1 F.2.1 dL_law_605 (by decide) ?_
    refine lv_iadd F.1 F.2.1 dL_law_606 ?_
    refine va_sld F.1 F.2.1 hX hbl hbA G.2.2.2.1 hi1 dL_law_607 ?_
    refine lv_aload_n F.1 F.2.1 dL_law_608 rfl (lv_at hl 5 rfl) ?_
    refine lv_iload F.1 F.2.1 dL_law_609 (lv_at hl 1 rfl) ?_
    refine lv_iconst (v := 2) F.1 F.2.1 dL_law_611 (by decide) ?_
    refine lv_iadd F.1 F.2.1 dL_law_612 ?_
    refine va_sld F.1 F.2.1 hX hbl hbA G.2.2.2.1 hi2 dL_law_613 ?_
    refine k_callVR (rv := _) (Wc := gM T aM z) (W2 := gM T aM zR) (Wn := gL T aF aR aD aP aH aW aO aM tx ps nm v vn hs ww out zR) (As := [.int (xs (x4 + 1).toNatClampNeg), .int (xs (x4 + 2).toNatClampNeg)]) (rest := []) F G (mX11_known l D T aM z (xs (x4 + 1).toNatClampNeg) (xs (x4 + 2).toNatClampNeg) h2) (cwV 2 hAL (kgL_c kLl137 (kgL_c kLl138 (kgL_c kLl139 (kgL_c (kA kl788) (kgL_c (kA kl992) kgL_k))))) rfl rfl rfl (by decide +kernel) ⟨Nat.le_of_ble_eq_true rfl, Nat.le_of_ble_eq_true rfl⟩) (kg_recv G 0 0 (by decide) rfl (q := (RX11, TX11, 35)) rfl) (kCut_LM G) rfl hl.1 rfl (Nat.le_of_ble_eq_true rfl) dL_law_614 ⟨kroom2 hcs.1 (Nat.le_of_ble_eq_true rfl), kroom2 hcs.2 (Nat.le_of_ble_eq_true rfl)⟩ (cN := cells + 2) (sN := slots + 12) ⟨rfl, rfl⟩ (fun H locs G => ?_)
    have hS := hSR
    refine lv_istore (lv' := [(6, .int b'), (5, .int 1), (4, .int x4), (3, .ref aO), (2, .ref (aM 0)), (1, .ref (aF 0)), (0, .ref b)]) F.1 F.2.1 dL_law_617 hl (by decide) rfl (fun ls hl => ?_)
    refine lv_aload_n F.1 F.2.1 dL_law_619 rfl (lv_at hl 4 rfl) ?_
    refine k_callVR (rv := (some (.int (zR 0 0)))) (Wc := gM T aM zR) (W2 := gM T aM zR) (Wn := gL T aF aR aD aP aH aW aO aM tx ps nm v vn hs ww out zR) (As := []) (rest := []) F G (mX11_thrown l D T aM zR rfl) (cwV 0 hAL (kgL_c kLl89 (kgL_c kLl90 (kgL_c kLl91 (kgL_c (kA kl788) (kgL_c (kA kl803) kgL_k))))) rfl rfl rfl (by decide +kernel) ⟨Nat.le_of_ble_eq_true rfl, Nat.le_of_ble_eq_true rfl⟩) (kg_recv G 0 0 (by decide) rfl (q := (RX11, TX11, 35)) rfl) (kCut_LM G) rfl hl.1 rfl (Nat.le_of_ble_eq_true rfl) dL_law_620 ⟨kroom2 hcs.1 (Nat.le_of_ble_eq_true rfl), kroom2 hcs.2 (Nat.le_of_ble_eq_true rfl)⟩ (cN := cells + 2) (sN := slots + 12) ⟨rfl, rfl⟩ (fun H locs G => ?_)
    refine lv_iload F.1 F.2.1 dL_law_623 (lv_at hl 1 rfl) ?_
    refine lv_icmp_eq (tgt := 630) F.1 F.2.1 dL_law_625 (by decide) (fun c => ?_) (fun c => absurd hthr c)
    refine lv_iload F.1 F.2.1 dL_law_630 (lv_at hl 1 rfl) ?_
    refine lv_if_ne (tgt := 647) F.1 F.2.1 dL_law_632 (by decide) (fun c => ?_) (fun c => absurd c (by decide))
    refine lv_goto (tgt := 1909) F.1 F.2.1 dL_law_647 (by decide) ?_
    exact kk tx ps nm v vn hs ww out zR _ _ _ hS G (lv_sub hl [2, 3, 4, 5, 6] rfl)
  · have hthr : zR 0 0 = 2 := hz
    refine kl_callSW (rv := some (.int 2)) (Wc := gO T aF aR aD aP aH aW aO tx ps nm v vn hs ww out) (W2 := gO T aF aR aD aP aH aW aO tx ps nm v vn hs ww out) (Wn := gL T aF aR aD aP aH aW aO aM tx ps nm v vn hs ww out z) (As := [.ref (aF 0), .int (xs (x4 + 1).toNatClampNeg), .int (xs (x4 + 2).toNatClampNeg), .ref aO]) (rest := []) F G (mL_known l hst D T aF aR aD aP aH aW aO tx ps nm v vn hs ww out (xs (x4 + 1).toNatClampNeg) (xs (x4 + 2).toNatClampNeg) (k := 2) (outR := out) h1 (Or.inr (Or.inr ⟨rfl, rfl, rfl⟩))) (vx_cwSW 4 hAL (kgL_c kLl134 (kgL_c kLl135 (kgL_c kLl84 (kgL_c kLl136 kgL_a)))) rfl rfl rfl (by decide +kernel) ⟨Nat.le_of_ble_eq_true rfl, Nat.le_of_ble_eq_true rfl⟩) (kCut_LO G) rfl hl.1 rfl (Nat.le_of_ble_eq_true rfl) dL_law_596 ⟨kroom1 hcs.1 (Nat.le_of_ble_eq_true rfl), kroom1 hcs.2 (Nat.le_of_ble_eq_true rfl)⟩ (cN := cells + 2) (sN := slots + 12) ⟨rfl, rfl⟩ (fun H locs G => ?_)
    refine lv_istore (lv' := [(5, .int 2), (4, .int x4), (3, .ref aO), (2, .ref (aM 0)), (1, .ref (aF 0)), (0, .ref b)]) F.1 F.2.1 dL_law_599 hl (by decide) rfl (fun ls hl => ?_)
    refine lv_aload_n F.1 F.2.1 dL_law_601 rfl (lv_at hl 3 rfl) ?_
    refine lv_aload_n F.1 F.2.1 dL_law_602 rfl (lv_at hl 5 rfl) ?_
    refine lv_iload F.1 F.2.1 dL_law_603 (lv_at hl 1 rfl) ?_
    refine lv_iconst (v := 1) F.1 F.2.1 dL_law_605 (by decide) ?_
    refine lv_iadd F.1 F.2.1 dL_law_606 ?_
    refine va_sld F.1 F.2.1 hX hbl hbA G.2.2.2.1 hi1 dL_law_607 ?_
    refine lv_aload_n F.1 F.2.1 dL_law_608 rfl (lv_at hl 5 rfl) ?_
    refine lv_iload F.1 F.2.1 dL_law_609 (lv_at hl 1 rfl) ?_
    refine lv_iconst (v := 2) F.1 F.2.1 dL_law_611 (by decide) ?_
    refine lv_iadd F.1 F.2.1 dL_law_612 ?_
    refine va_sld F.1 F.2.1 hX hbl hbA G.2.2.2.1 hi2 dL_law_613 ?_
    refine k_callVR (rv := _) (Wc := gM T aM z) (W2 := gM T aM zR) (Wn := gL T aF aR aD aP aH aW aO aM tx ps nm v vn hs ww out zR) (As := [.int (xs (x4 + 1).toNatClampNeg), .int (xs (x4 + 2).toNatClampNeg)]) (rest := []) F G (mX11_known l D T aM z (xs (x4 + 1).toNatClampNeg) (xs (x4 + 2).toNatClampNeg) h2) (cwV 2 hAL (kgL_c kLl137 (kgL_c kLl138 (kgL_c kLl139 (kgL_c (kA kl788) (kgL_c (kA kl992) kgL_k))))) rfl rfl rfl (by decide +kernel) ⟨Nat.le_of_ble_eq_true rfl, Nat.le_of_ble_eq_true rfl⟩) (kg_recv G 0 0 (by decide) rfl (q := (RX11, TX11, 35)) rfl) (kCut_LM G) rfl hl.1 rfl (Nat.le_of_ble_eq_true rfl) dL_law_614 ⟨kroom2 hcs.1 (Nat.le_of_ble_eq_true rfl), kroom2 hcs.2 (Nat.le_of_ble_eq_true rfl)⟩ (cN := cells + 2) (sN := slots + 12) ⟨rfl, rfl⟩ (fun H locs G => ?_)
    have hS := hSR
    refine lv_istore (lv' := [(6, .int b'), (5, .int 2), (4, .int x4), (3, .ref aO), (2, .ref (aM 0)), (1, .ref (aF 0)), (0, .ref b)]) F.1 F.2.1 dL_law_617 hl (by decide) rfl (fun ls hl => ?_)
    refine lv_aload_n F.1 F.2.1 dL_law_619 rfl (lv_at hl 4 rfl) ?_
    refine k_callVR (rv := (some (.int (zR 0 0)))) (Wc := gM T aM zR) (W2 := gM T aM zR) (Wn := gL T aF aR aD aP aH aW aO aM tx ps nm v vn hs ww out zR) (As := []) (rest := []) F G (mX11_thrown l D T aM zR rfl) (cwV 0 hAL (kgL_c kLl89 (kgL_c kLl90 (kgL_c kLl91 (kgL_c (kA kl788) (kgL_c (kA kl803) kgL_k))))) rfl rfl rfl (by decide +kernel) ⟨Nat.le_of_ble_eq_true rfl, Nat.le_of_ble_eq_true rfl⟩) (kg_recv G 0 0 (by decide) rfl (q := (RX11, TX11, 35)) rfl) (kCut_LM G) rfl hl.1 rfl (Nat.le_of_ble_eq_true rfl) dL_law_620 ⟨kroom2 hcs.1 (Nat.le_of_ble_eq_true rfl), kroom2 hcs.2 (Nat.le_of_ble_eq_true rfl)⟩ (cN := cells + 2) (sN := slots + 12) ⟨rfl, rfl⟩ (fun H locs G => ?_)
    refine lv_iload F.1 F.2.1 dL_law_623 (lv_at hl 1 rfl) ?_
    refine lv_icmp_eq (tgt := 630) F.1 F.2.1 dL_law_625 (by decide) (fun c => ?_) (fun c => absurd hthr c)
    refine lv_iload F.1 F.2.1 dL_law_630 (lv_at hl 1 rfl) ?_
    refine lv_if_ne (tgt := 647) F.1 F.2.1 dL_law_632 (by decide) (fun c => ?_) (fun c => absurd c (by decide))
    refine lv_goto (tgt := 1909) F.1 F.2.1 dL_law_647 (by decide) ?_
    exact kk tx ps nm v vn hs ww out zR _ _ _ hS G (lv_sub hl [2, 3, 4, 5, 6] rfl)
set_option maxHeartbeats 8000000 in
set_option maxRecDepth 100000 in
theorem lc_needs {Sim : (Nat → Nat → Int32) → (Nat → Nat → Int32) → (Nat → Int64) → (Nat → Nat → Int32) → (Nat → Int64) → (Nat → Nat → Int32) → (Nat → Nat → Nat → Int32) → (Nat → Nat → Int32) → Prop} (Hs : St_needs Sim) (hst : l.stackTraces = false) (F : CallFix p m c code 9 s args kAll RL) (hAL : ∀ w ∈ kAL, w.before args s = true) (hr : meth.sig.returnType = ret) (hlk : meth.locks = false) (hX : va_X b L xs s s.heap) (hbl : b < s.heap.size) (hbA : ¬ A b) {x4 : Int32} (hi1 : vp_in (x4 + 1) L) (hi2 : vp_in (x4 + 2) L) (hi3 : vp_in (x4 + 3) L) (hi4 : vp_in (x4 + 4) L) (hi5 : vp_in (x4 + 5) L) (hcs : cells + 2 ≤ 601024 ∧ slots + 12 ≤ 7293034) (hS : Sim tx ps nm v vn hs ww z)
    (kk : ∀ (tx : Nat → Nat → Int32) (ps : Nat → Nat → Int32) (nm : Nat → Int64) (v : Nat → Nat → Int32) (vn : Nat → Int64) (hs : Nat → Nat → Int32) (ww : Nat → Nat → Nat → Int32) (out : Nat → Int64) (z : Nat → Nat → Int32) (H : Heap) (locs : List Loc) (ls : Array Slot), Sim tx ps nm v vn hs ww z → Rg D T A s (gL T aF aR aD aP aH aW aO aM tx ps nm v vn hs ww out z) H locs → lv_has ls 9 [(4, .int x4), (3, .ref aO), (2, .ref (aM 0)), (1, .ref (aF 0)), (0, .ref b)] → W p l e room_1 s m args below meth c H locs (cells + 1) (slots + 6) Q (F0 m 1909 ls []))
    (G : Rg D T A s (gL T aF aR aD aP aH aW aO aM tx ps nm v vn hs ww out z) H locs) (hl : lv_has ls 9 [(4, .int x4), (3, .ref aO), (2, .ref (aM 0)), (1, .ref (aF 0)), (0, .ref b)]) : W p l e room_1 s m args below meth c H locs cells slots Q (F0 m 650 ls []) := by
  by_cases hb : xs (x4 + 2).toNatClampNeg = 0
  · skip
    refine lv_aload_n F.1 F.2.1 dL_law_650 rfl (lv_at hl 3 rfl) ?_
    refine lv_aload_n F.1 F.2.1 dL_law_651 rfl (lv_at hl 4 rfl) ?_
    refine lv_iload F.1 F.2.1 dL_law_652 (lv_at hl 0 rfl) ?_
    refine lv_iconst (v := 1) F.1 F.2.1 dL_law_654 (by decide) ?_
    refine lv_iadd F.1 F.2.1 dL_law_655 ?_
    refine va_sld F.1 F.2.1 hX hbl hbA G.2.2.2.1 hi1 dL_law_656 ?_
    refine lv_aload_n F.1 F.2.1 dL_law_657 rfl (lv_at hl 4 rfl) ?_
    refine lv_iload F.1 F.2.1 dL_law_658 (lv_at hl 0 rfl) ?_
    refine lv_iconst (v := 2) F.1 F.2.1 dL_law_660 (by decide) ?_
    refine lv_iadd F.1 F.2.1 dL_law_661 ?_
    refine va_sld F.1 F.2.1 hX hbl hbA G.2.2.2.1 hi2 dL_law_662 ?_
    refine lv_if_eq (tgt := 670) F.1 F.2.1 dL_law_663 (by decide) (fun c => ?_) (fun c => absurd hb c)
    refine lv_iconst (v := 0) F.1 F.2.1 dL_law_670 (by decide) ?_
    refine lv_aload_n F.1 F.2.1 dL_law_671 rfl (lv_at hl 1 rfl) ?_
    obtain ⟨e, r, b', zR, h1, h2, hd, hSR⟩ := Hs tx ps nm v vn hs ww z hS (xs (x4 + 1).toNatClampNeg) 0 (Or.inl rfl)
    rcases hd with ⟨rfl, hz, rfl⟩ | ⟨rfl, hz⟩
    · have hthr : zR 0 0 = 0 := hz
      refine kl_callSW (rv := some (.int 0)) (Wc := gO T aF aR aD aP aH aW aO tx ps nm v vn hs ww out) (W2 := gO T aF aR aD aP aH aW aO tx ps nm v vn hs ww (vp_updL out 0 r.toInt64)) (Wn := gL T aF aR aD aP aH aW aO aM tx ps nm v vn hs ww (vp_updL out 0 r.toInt64) z) (As := [.ref (aF 0), .int (xs (x4 + 1).toNatClampNeg), .int 0, .ref aO]) (rest := []) F G (mL_needs l hst D T aF aR aD aP aH aW aO tx ps nm v vn hs ww out (xs (x4 + 1).toNatClampNeg) 0 (k := 0) (outR := (vp_updL out 0 r.toInt64)) h1 (Or.inl ⟨rfl, rfl, rfl⟩)) (vx_cwSW 4 hAL (kgL_c kLl140 (kgL_c kLl141 (kgL_c kLl84 (kgL_c kLl142 kgL_a)))) rfl rfl rfl (by decide +kernel) ⟨Nat.le_of_ble_eq_true rfl, Nat.le_of_ble_eq_true rfl⟩) (kCut_LO G) rfl hl.1 rfl (Nat.le_of_ble_eq_true rfl) dL_law_672 ⟨kroom1 hcs.1 (Nat.le_of_ble_eq_true rfl), kroom1 hcs.2 (Nat.le_of_ble_eq_true rfl)⟩ (cN := cells + 1) (sN := slots + 6) ⟨rfl, rfl⟩ (fun H locs G => ?_)
      have hcmp : lg_cmp ((vp_updL out 0 r.toInt64) (0 : Int32).toNatClampNeg) r.toInt64 = 0 := lg_same _ _
      refine lv_istore (lv' := [(5, .int 0), (4, .int x4), (3, .ref aO), (2, .ref (aM 0)), (1, .ref (aF 0)), (0, .ref b)]) F.1 F.2.1 dL_law_675 hl (by decide) rfl (fun ls hl => ?_)
      refine lv_aload_n F.1 F.2.1 dL_law_677 rfl (lv_at hl 3 rfl) ?_
      refine lv_aload_n F.1 F.2.1 dL_law_678 rfl (lv_at hl 5 rfl) ?_
      refine lv_iload F.1 F.2.1 dL_law_679 (lv_at hl 1 rfl) ?_
      refine lv_iconst (v := 1) F.1 F.2.1 dL_law_681 (by decide) ?_
      refine lv_iadd F.1 F.2.1 dL_law_682 ?_
      refine va_sld F.1 F.2.1 hX hbl hbA G.2.2.2.1 hi1 dL_law_683 ?_
      refine lv_aload_n F.1 F.2.1 dL_law_684 rfl (lv_at hl 5 rfl) ?_
      refine lv_iload F.1 F.2.1 dL_law_685 (lv_at hl 1 rfl) ?_
      refine lv_iconst (v := 2) F.1 F.2.1 dL_law_687 (by decide) ?_
      refine lv_iadd F.1 F.2.1 dL_law_688 ?_
      refine va_sld F.1 F.2.1 hX hbl hbA G.2.2.2.1 hi2 dL_law_689 ?_
      refine lv_if_eq (tgt := 697) F.1 F.2.1 dL_law_690 (by decide) (fun c => ?_) (fun c => absurd hb c)
      refine lv_iconst (v := 0) F.1 F.2.1 dL_law_697 (by decide) ?_
      refine k_callVR (rv := _) (Wc := gM T aM z) (W2 := gM T aM zR) (Wn := gL T aF aR aD aP aH aW aO aM tx ps nm v vn hs ww (vp_updL out 0 r.toInt64) zR) (As := [.int (xs (x4 + 1).toNatClampNeg), .int 0]) (rest := []) F G (mX11_needs l D T aM z (xs (x4 + 1).toNatClampNeg) 0 h2) (cwV 2 hAL (kgL_c kLl143 (kgL_c kLl144 (kgL_c kLl145 (kgL_c (kA kl788) (kgL_c (kA kl994) kgL_k))))) rfl rfl rfl (by decide +kernel) ⟨Nat.le_of_ble_eq_true rfl, Nat.le_of_ble_eq_true rfl⟩) (kg_recv G 0 0 (by decide) rfl (q := (RX11, TX11, 35)) rfl) (kCut_LM G) rfl hl.1 rfl (Nat.le_of_ble_eq_true rfl) dL_law_698 ⟨kroom2 hcs.1 (Nat.le_of_ble_eq_true rfl), kroom2 hcs.2 (Nat.le_of_ble_eq_true rfl)⟩ (cN := cells + 1) (sN := slots + 6) ⟨rfl, rfl⟩ (fun H locs G => ?_)
      have hS := hSR
      refine lv_istore (lv' := [(6, .int r), (5, .int 0), (4, .int x4), (3, .ref aO), (2, .ref (aM 0)), (1, .ref (aF 0)), (0, .ref b)]) F.1 F.2.1 dL_law_701 hl (by decide) rfl (fun ls hl => ?_)
      refine lv_aload_n F.1 F.2.1 dL_law_703 rfl (lv_at hl 4 rfl) ?_
      refine k_callVR (rv := (some (.int (zR 0 0)))) (Wc := gM T aM zR) (W2 := gM T aM zR) (Wn := gL T aF aR aD aP aH aW aO aM tx ps nm v vn hs ww (vp_updL out 0 r.toInt64) zR) (As := []) (rest := []) F G (mX11_thrown l D T aM zR rfl) (cwV 0 hAL (kgL_c kLl89 (kgL_c kLl90 (kgL_c kLl91 (kgL_c (kA kl788) (kgL_c (kA kl803) kgL_k))))) rfl rfl rfl (by decide +kernel) ⟨Nat.le_of_ble_eq_true rfl, Nat.le_of_ble_eq_true rfl⟩) (kg_recv G 0 0 (by decide) rfl (q := (RX11, TX11, 35)) rfl) (kCut_LM G) rfl hl.1 rfl (Nat.le_of_ble_eq_true rfl) dL_law_704 ⟨kroom2 hcs.1 (Nat.le_of_ble_eq_true rfl), kroom2 hcs.2 (Nat.le_of_ble_eq_true rfl)⟩ (cN := cells + 1) (sN := slots + 6) ⟨rfl, rfl⟩ (fun H locs G => ?_)
      refine lv_iload F.1 F.2.1 dL_law_707 (lv_at hl 1 rfl) ?_
      refine lv_icmp_eq (tgt := 714) F.1 F.2.1 dL_law_709 (by decide) (fun c => ?_) (fun c => absurd hthr c)
      refine lv_iload F.1 F.2.1 dL_law_714 (lv_at hl 1 rfl) ?_
      refine lv_if_ne (tgt := 731) F.1 F.2.1 dL_law_716 (by decide) (fun c => absurd (by decide) c) (fun c => ?_)
      refine lv_aload_n F.1 F.2.1 dL_law_719 rfl (lv_at hl 3 rfl) ?_
      refine lv_iconst (v := 0) F.1 F.2.1 dL_law_720 (by decide) ?_
      refine kg_lald F G 1 0 (by decide) rfl (i := 0) (kin (by decide +kernel)) dL_law_721 ?_
      refine lv_iload F.1 F.2.1 dL_law_722 (lv_at hl 0 rfl) ?_
      refine lv_i2l (v := r.toInt64) F.1 F.2.1 dL_law_724 rfl ?_
      refine W.lcmp F.1 F.2.1 dL_law_725 ?_
      refine lv_if_eq (tgt := 731) F.1 F.2.1 dL_law_726 (by decide) (fun c => ?_) (fun c => absurd hcmp c)
      refine lv_goto (tgt := 1909) F.1 F.2.1 dL_law_731 (by decide) ?_
      exact kk tx ps nm v vn hs ww (vp_updL out 0 r.toInt64) zR _ _ _ hS G (lv_sub hl [2, 3, 4, 5, 6] rfl)
    · have hthr : zR 0 0 = 1 := hz
      refine kl_callSW (rv := some (.int 1)) (Wc := gO T aF aR aD aP aH aW aO tx ps nm v vn hs ww out) (W2 := gO T aF aR aD aP aH aW aO tx ps nm v vn hs ww out) (Wn := gL T aF aR aD aP aH aW aO aM tx ps nm v vn hs ww out z) (As := [.ref (aF 0), .int (xs (x4 + 1).toNatClampNeg), .int 0, .ref aO]) (rest := []) F G (mL_needs l hst D T aF aR aD aP aH aW aO tx ps nm v vn hs ww out (xs (x4 + 1).toNatClampNeg) 0 (k := 1) (outR := out) h1 (Or.inr ⟨rfl, rfl, rfl⟩)) (vx_cwSW 4 hAL (kgL_c kLl140 (kgL_c kLl141 (kgL_c kLl84 (kgL_c kLl142 kgL_a)))) rfl rfl rfl (by decide +kernel) ⟨Nat.le_of_ble_eq_true rfl, Nat.le_of_ble_eq_true rfl⟩) (kCut_LO G) rfl hl.1 rfl (Nat.le_of_ble_eq_true rfl) dL_law_672 ⟨kroom1 hcs.1 (Nat.le_of_ble_eq_true rfl), kroom1 hcs.2 (Nat.le_of_ble_eq_true rfl)⟩ (cN := cells + 1) (sN := slots + 6) ⟨rfl, rfl⟩ (fun H locs G => ?_)
      refine lv_istore (lv' := [(5, .int 1), (4, .int x4), (3, .ref aO), (2, .ref (aM 0)), (1, .ref (aF 0)), (0, .ref b)]) F.1 F.2.1 dL_law_675 hl (by decide) rfl (fun ls hl => ?_)
      refine lv_aload_n F.1 F.2.1 dL_law_677 rfl (lv_at hl 3 rfl) ?_
      refine lv_aload_n F.1 F.2.1 dL_law_678 rfl (lv_at hl 5 rfl) ?_
      refine lv_iload F.1 F.2.1 dL_law_679 (lv_at hl 1 rfl) ?_
      refine lv_iconst (v := 1) F.1 F.2.1 dL_law_681 (by decide) ?_
      refine lv_iadd F.1 F.2.1 dL_law_682 ?_
      refine va_sld F.1 F.2.1 hX hbl hbA G.2.2.2.1 hi1 dL_law_683 ?_
      refine lv_aload_n F.1 F.2.1 dL_law_684 rfl (lv_at hl 5 rfl) ?_
      refine lv_iload F.1 F.2.1 dL_law_685 (lv_at hl 1 rfl) ?_
      refine lv_iconst (v := 2) F.1 F.2.1 dL_law_687 (by decide) ?_
      refine lv_iadd F.1 F.2.1 dL_law_688 ?_
      refine va_sld F.1 F.2.1 hX hbl hbA G.2.2.2.1 hi2 dL_law_689 ?_
      refine lv_if_eq (tgt := 697) F.1 F.2.1 dL_law_690 (by decide) (fun c => ?_) (fun c => absurd hb c)
      refine lv_iconst (v := 0) F.1 F.2.1 dL_law_697 (by decide) ?_
      refine k_callVR (rv := _) (Wc := gM T aM z) (W2 := gM T aM zR) (Wn := gL T aF aR aD aP aH aW aO aM tx ps nm v vn hs ww out zR) (As := [.int (xs (x4 + 1).toNatClampNeg), .int 0]) (rest := []) F G (mX11_needs l D T aM z (xs (x4 + 1).toNatClampNeg) 0 h2) (cwV 2 hAL (kgL_c kLl143 (kgL_c kLl144 (kgL_c kLl145 (kgL_c (kA kl788) (kgL_c (kA kl994) kgL_k))))) rfl rfl rfl (by decide +kernel) ⟨Nat.le_of_ble_eq_true rfl, Nat.le_of_ble_eq_true rfl⟩) (kg_recv G 0 0 (by decide) rfl (q := (RX11, TX11, 35)) rfl) (kCut_LM G) rfl hl.1 rfl (Nat.le_of_ble_eq_true rfl) dL_law_698 ⟨kroom2 hcs.1 (Nat.le_of_ble_eq_true rfl), kroom2 hcs.2 (Nat.le_of_ble_eq_true rfl)⟩ (cN := cells + 1) (sN := slots + 6) ⟨rfl, rfl⟩ (fun H locs G => ?_)
      have hS := hSR
      refine lv_istore (lv' := [(6, .int b'), (5, .int 1), (4, .int x4), (3, .ref aO), (2, .ref (aM 0)), (1, .ref (aF 0)), (0, .ref b)]) F.1 F.2.1 dL_law_701 hl (by decide) rfl (fun ls hl => ?_)
      refine lv_aload_n F.1 F.2.1 dL_law_703 rfl (lv_at hl 4 rfl) ?_
      refine k_callVR (rv := (some (.int (zR 0 0)))) (Wc := gM T aM zR) (W2 := gM T aM zR) (Wn := gL T aF aR aD aP aH aW aO aM tx ps nm v vn hs ww out zR) (As := []) (rest := []) F G (mX11_thrown l D T aM zR rfl) (cwV 0 hAL (kgL_c kLl89 (kgL_c kLl90 (kgL_c kLl91 (kgL_c (kA kl788) (kgL_c (kA kl803) kgL_k))))) rfl rfl rfl (by decide +kernel) ⟨Nat.le_of_ble_eq_true rfl, Nat.le_of_ble_eq_true rfl⟩) (kg_recv G 0 0 (by decide) rfl (q := (RX11, TX11, 35)) rfl) (kCut_LM G) rfl hl.1 rfl (Nat.le_of_ble_eq_true rfl) dL_law_704 ⟨kroom2 hcs.1 (Nat.le_of_ble_eq_true rfl), kroom2 hcs.2 (Nat.le_of_ble_eq_true rfl)⟩ (cN := cells + 1) (sN := slots + 6) ⟨rfl, rfl⟩ (fun H locs G => ?_)
      refine lv_iload F.1 F.2.1 dL_law_707 (lv_at hl 1 rfl) ?_
      refine lv_icmp_eq (tgt := 714) F.1 F.2.1 dL_law_709 (by decide) (fun c => ?_) (fun c => absurd hthr c)
      refine lv_iload F.1 F.2.1 dL_law_714 (lv_at hl 1 rfl) ?_
      refine lv_if_ne (tgt := 731) F.1 F.2.1 dL_law_716 (by decide) (fun c => ?_) (fun c => absurd c (by decide))
      refine lv_goto (tgt := 1909) F.1 F.2.1 dL_law_731 (by decide) ?_
      exact kk tx ps nm v vn hs ww out zR _ _ _ hS G (lv_sub hl [2, 3, 4, 5, 6] rfl)
  · skip
    refine lv_aload_n F.1 F.2.1 dL_law_650 rfl (lv_at hl 3 rfl) ?_
    refine lv_aload_n F.1 F.2.1 dL_law_651 rfl (lv_at hl 4 rfl) ?_
    refine lv_iload F.1 F.2.1 dL_law_652 (lv_at hl 0 rfl) ?_
    refine lv_iconst (v := 1) F.1 F.2.1 dL_law_654 (by decide) ?_
    refine lv_iadd F.1 F.2.1 dL_law_655 ?_
    refine va_sld F.1 F.2.1 hX hbl hbA G.2.2.2.1 hi1 dL_law_656 ?_
    refine lv_aload_n F.1 F.2.1 dL_law_657 rfl (lv_at hl 4 rfl) ?_
    refine lv_iload F.1 F.2.1 dL_law_658 (lv_at hl 0 rfl) ?_
    refine lv_iconst (v := 2) F.1 F.2.1 dL_law_660 (by decide) ?_
    refine lv_iadd F.1 F.2.1 dL_law_661 ?_
    refine va_sld F.1 F.2.1 hX hbl hbA G.2.2.2.1 hi2 dL_law_662 ?_
    refine lv_if_eq (tgt := 670) F.1 F.2.1 dL_law_663 (by decide) (fun c => absurd c hb) (fun c => ?_)
    refine lv_iconst (v := 1) F.1 F.2.1 dL_law_666 (by decide) ?_
    refine lv_goto (tgt := 671) F.1 F.2.1 dL_law_667 (by decide) ?_
    refine lv_aload_n F.1 F.2.1 dL_law_671 rfl (lv_at hl 1 rfl) ?_
    obtain ⟨e, r, b', zR, h1, h2, hd, hSR⟩ := Hs tx ps nm v vn hs ww z hS (xs (x4 + 1).toNatClampNeg) 1 (Or.inr rfl)
    rcases hd with ⟨rfl, hz, rfl⟩ | ⟨rfl, hz⟩
    · have hthr : zR 0 0 = 0 := hz
      refine kl_callSW (rv := some (.int 0)) (Wc := gO T aF aR aD aP aH aW aO tx ps nm v vn hs ww out) (W2 := gO T aF aR aD aP aH aW aO tx ps nm v vn hs ww (vp_updL out 0 r.toInt64)) (Wn := gL T aF aR aD aP aH aW aO aM tx ps nm v vn hs ww (vp_updL out 0 r.toInt64) z) (As := [.ref (aF 0), .int (xs (x4 + 1).toNatClampNeg), .int 1, .ref aO]) (rest := []) F G (mL_needs l hst D T aF aR aD aP aH aW aO tx ps nm v vn hs ww out (xs (x4 + 1).toNatClampNeg) 1 (k := 0) (outR := (vp_updL out 0 r.toInt64)) h1 (Or.inl ⟨rfl, rfl, rfl⟩)) (vx_cwSW 4 hAL (kgL_c kLl140 (kgL_c kLl141 (kgL_c kLl84 (kgL_c kLl142 kgL_a)))) rfl rfl rfl (by decide +kernel) ⟨Nat.le_of_ble_eq_true rfl, Nat.le_of_ble_eq_true rfl⟩) (kCut_LO G) rfl hl.1 rfl (Nat.le_of_ble_eq_true rfl) dL_law_672 ⟨kroom1 hcs.1 (Nat.le_of_ble_eq_true rfl), kroom1 hcs.2 (Nat.le_of_ble_eq_true rfl)⟩ (cN := cells + 1) (sN := slots + 6) ⟨rfl, rfl⟩ (fun H locs G => ?_)
      have hcmp : lg_cmp ((vp_updL out 0 r.toInt64) (0 : Int32).toNatClampNeg) r.toInt64 = 0 := lg_same _ _
      refine lv_istore (lv' := [(5, .int 0), (4, .int x4), (3, .ref aO), (2, .ref (aM 0)), (1, .ref (aF 0)), (0, .ref b)]) F.1 F.2.1 dL_law_675 hl (by decide) rfl (fun ls hl => ?_)
      refine lv_aload_n F.1 F.2.1 dL_law_677 rfl (lv_at hl 3 rfl) ?_
      refine lv_aload_n F.1 F.2.1 dL_law_678 rfl (lv_at hl 5 rfl) ?_
      refine lv_iload F.1 F.2.1 dL_law_679 (lv_at hl 1 rfl) ?_
      refine lv_iconst (v := 1) F.1 F.2.1 dL_law_681 (by decide) ?_
      refine lv_iadd F.1 F.2.1 dL_law_682 ?_
      refine va_sld F.1 F.2.1 hX hbl hbA G.2.2.2.1 hi1 dL_law_683 ?_
      refine lv_aload_n F.1 F.2.1 dL_law_684 rfl (lv_at hl 5 rfl) ?_
      refine lv_iload F.1 F.2.1 dL_law_685 (lv_at hl 1 rfl) ?_
      refine lv_iconst (v := 2) F.1 F.2.1 dL_law_687 (by decide) ?_
      refine lv_iadd F.1 F.2.1 dL_law_688 ?_
      refine va_sld F.1 F.2.1 hX hbl hbA G.2.2.2.1 hi2 dL_law_689 ?_
      refine lv_if_eq (tgt := 697) F.1 F.2.1 dL_law_690 (by decide) (fun c => absurd c hb) (fun c => ?_)
      refine lv_iconst (v := 1) F.1 F.2.1 dL_law_693 (by decide) ?_
      refine lv_goto (tgt := 698) F.1 F.2.1 dL_law_694 (by decide) ?_
      refine k_callVR (rv := _) (Wc := gM T aM z) (W2 := gM T aM zR) (Wn := gL T aF aR aD aP aH aW aO aM tx ps nm v vn hs ww (vp_updL out 0 r.toInt64) zR) (As := [.int (xs (x4 + 1).toNatClampNeg), .int 1]) (rest := []) F G (mX11_needs l D T aM z (xs (x4 + 1).toNatClampNeg) 1 h2) (cwV 2 hAL (kgL_c kLl143 (kgL_c kLl144 (kgL_c kLl145 (kgL_c (kA kl788) (kgL_c (kA kl994) kgL_k))))) rfl rfl rfl (by decide +kernel) ⟨Nat.le_of_ble_eq_true rfl, Nat.le_of_ble_eq_true rfl⟩) (kg_recv G 0 0 (by decide) rfl (q := (RX11, TX11, 35)) rfl) (kCut_LM G) rfl hl.1 rfl (Nat.le_of_ble_eq_true rfl) dL_law_698 ⟨kroom2 hcs.1 (Nat.le_of_ble_eq_true rfl), kroom2 hcs.2 (Nat.le_of_ble_eq_true rfl)⟩ (cN := cells + 1) (sN := slots + 6) ⟨rfl, rfl⟩ (fun H locs G => ?_)
      have hS := hSR
      refine lv_istore (lv' := [(6, .int r), (5, .int 0), (4, .int x4), (3, .ref aO), (2, .ref (aM 0)), (1, .ref (aF 0)), (0, .ref b)]) F.1 F.2.1 dL_law_701 hl (by decide) rfl (fun ls hl => ?_)
      refine lv_aload_n F.1 F.2.1 dL_law_703 rfl (lv_at hl 4 rfl) ?_
      refine k_callVR (rv := (some (.int (zR 0 0)))) (Wc := gM T aM zR) (W2 := gM T aM zR) (Wn := gL T aF aR aD aP aH aW aO aM tx ps nm v vn hs ww (vp_updL out 0 r.toInt64) zR) (As := []) (rest := []) F G (mX11_thrown l D T aM zR rfl) (cwV 0 hAL (kgL_c kLl89 (kgL_c kLl90 (kgL_c kLl91 (kgL_c (kA kl788) (kgL_c (kA kl803) kgL_k))))) rfl rfl rfl (by decide +kernel) ⟨Nat.le_of_ble_eq_true rfl, Nat.le_of_ble_eq_true rfl⟩) (kg_recv G 0 0 (by decide) rfl (q := (RX11, TX11, 35)) rfl) (kCut_LM G) rfl hl.1 rfl (Nat.le_of_ble_eq_true rfl) dL_law_704 ⟨kroom2 hcs.1 (Nat.le_of_ble_eq_true rfl), kroom2 hcs.2 (Nat.le_of_ble_eq_true rfl)⟩ (cN := cells + 1) (sN := slots + 6) ⟨rfl, rfl⟩ (fun H locs G => ?_)
      refine lv_iload F.1 F.2.1 dL_law_707 (lv_at hl 1 rfl) ?_
      refine lv_icmp_eq (tgt := 714) F.1 F.2.1 dL_law_709 (by decide) (fun c => ?_) (fun c => absurd hthr c)
      refine lv_iload F.1 F.2.1 dL_law_714 (lv_at hl 1 rfl) ?_
      refine lv_if_ne (tgt := 731) F.1 F.2.1 dL_law_716 (by decide) (fun c => absurd (by decide) c) (fun c => ?_)
      refine lv_aload_n F.1 F.2.1 dL_law_719 rfl (lv_at hl 3 rfl) ?_
      refine lv_iconst (v := 0) F.1 F.2.1 dL_law_720 (by decide) ?_
      refine kg_lald F G 1 0 (by decide) rfl (i := 0) (kin (by decide +kernel)) dL_law_721 ?_
      refine lv_iload F.1 F.2.1 dL_law_722 (lv_at hl 0 rfl) ?_
      refine lv_i2l (v := r.toInt64) F.1 F.2.1 dL_law_724 rfl ?_
      refine W.lcmp F.1 F.2.1 dL_law_725 ?_
      refine lv_if_eq (tgt := 731) F.1 F.2.1 dL_law_726 (by decide) (fun c => ?_) (fun c => absurd hcmp c)
      refine lv_goto (tgt := 1909) F.1 F.2.1 dL_law_731 (by decide) ?_
      exact kk tx ps nm v vn hs ww (vp_updL out 0 r.toInt64) zR _ _ _ hS G (lv_sub hl [2, 3, 4, 5, 6] rfl)
    · have hthr : zR 0 0 = 1 := hz
      refine kl_callSW (rv := some (.int 1)) (Wc := gO T aF aR aD aP aH aW aO tx ps nm v vn hs ww out) (W2 := gO T aF aR aD aP aH aW aO tx ps nm v vn hs ww out) (Wn := gL T aF aR aD aP aH aW aO aM tx ps nm v vn hs ww out z) (As := [.ref (aF 0), .int (xs (x4 + 1).toNatClampNeg), .int 1, .ref aO]) (rest := []) F G (mL_needs l hst D T aF aR aD aP aH aW aO tx ps nm v vn hs ww out (xs (x4 + 1).toNatClampNeg) 1 (k := 1) (outR := out) h1 (Or.inr ⟨rfl, rfl, rfl⟩)) (vx_cwSW 4 hAL (kgL_c kLl140 (kgL_c kLl141 (kgL_c kLl84 (kgL_c kLl142 kgL_a)))) rfl rfl rfl (by decide +kernel) ⟨Nat.le_of_ble_eq_true rfl, Nat.le_of_ble_eq_true rfl⟩) (kCut_LO G) rfl hl.1 rfl (Nat.le_of_ble_eq_true rfl) dL_law_672 ⟨kroom1 hcs.1 (Nat.le_of_ble_eq_true rfl), kroom1 hcs.2 (Nat.le_of_ble_eq_true rfl)⟩ (cN := cells + 1) (sN := slots + 6) ⟨rfl, rfl⟩ (fun H locs G => ?_)
      refine lv_istore (lv' := [(5, .int 1), (4, .int x4), (3, .ref aO), (2, .ref (aM 0)), (1, .ref (aF 0)), (0, .ref b)]) F.1 F.2.1 dL_law_675 hl (by decide) rfl (fun ls hl => ?_)
      refine lv_aload_n F.1 F.2.1 dL_law_677 rfl (lv_at hl 3 rfl) ?_
      refine lv_aload_n F.1 F.2.1 dL_law_678 rfl (lv_at hl 5 rfl) ?_
      refine lv_iload F.1 F.2.1 dL_law_679 (lv_at hl 1 rfl) ?_
      refine lv_iconst (v := 1) F.1 F.2.1 dL_law_681 (by decide) ?_
      refine lv_iadd F.1 F.2.1 dL_law_682 ?_
      refine va_sld F.1 F.2.1 hX hbl hbA G.2.2.2.1 hi1 dL_law_683 ?_
      refine lv_aload_n F.1 F.2.1 dL_law_684 rfl (lv_at hl 5 rfl) ?_
      refine lv_iload F.1 F.2.1 dL_law_685 (lv_at hl 1 rfl) ?_
      refine lv_iconst (v := 2) F.1 F.2.1 dL_law_687 (by decide) ?_
      refine lv_iadd F.1 F.2.1 dL_law_688 ?_
      refine va_sld F.1 F.2.1 hX hbl hbA G.2.2.2.1 hi2 dL_law_689 ?_
      refine lv_if_eq (tgt := 697) F.1 F.2.1 dL_law_690 (by decide) (fun c => absurd c hb) (fun c => ?_)
      refine lv_iconst (v := 1) F.1 F.2.1 dL_law_693 (by decide) ?_
      refine lv_goto (tgt := 698) F.1 F.2.1 dL_law_694 (by decide) ?_
      refine k_callVR (rv := _) (Wc := gM T aM z) (W2 := gM T aM zR) (Wn := gL T aF aR aD aP aH aW aO aM tx ps nm v vn hs ww out zR) (As := [.int (xs (x4 + 1).toNatClampNeg), .int 1]) (rest := []) F G (mX11_needs l D T aM z (xs (x4 + 1).toNatClampNeg) 1 h2) (cwV 2 hAL (kgL_c kLl143 (kgL_c kLl144 (kgL_c kLl145 (kgL_c (kA kl788) (kgL_c (kA kl994) kgL_k))))) rfl rfl rfl (by decide +kernel) ⟨Nat.le_of_ble_eq_true rfl, Nat.le_of_ble_eq_true rfl⟩) (kg_recv G 0 0 (by decide) rfl (q := (RX11, TX11, 35)) rfl) (kCut_LM G) rfl hl.1 rfl (Nat.le_of_ble_eq_true rfl) dL_law_698 ⟨kroom2 hcs.1 (Nat.le_of_ble_eq_true rfl), kroom2 hcs.2 (Nat.le_of_ble_eq_true rfl)⟩ (cN := cells + 1) (sN := slots + 6) ⟨rfl, rfl⟩ (fun H locs G => ?_)
      have hS := hSR
      refine lv_istore (lv' := [(6, .int b'), (5, .int 1), (4, .int x4), (3, .ref aO), (2, .ref (aM 0)), (1, .ref (aF 0)), (0, .ref b)]) F.1 F.2.1 dL_law_701 hl (by decide) rfl (fun ls hl => ?_)
      refine lv_aload_n F.1 F.2.1 dL_law_703 rfl (lv_at hl 4 rfl) ?_
      refine k_callVR (rv := (some (.int (zR 0 0)))) (Wc := gM T aM zR) (W2 := gM T aM zR) (Wn := gL T aF aR aD aP aH aW aO aM tx ps nm v vn hs ww out zR) (As := []) (rest := []) F G (mX11_thrown l D T aM zR rfl) (cwV 0 hAL (kgL_c kLl89 (kgL_c kLl90 (kgL_c kLl91 (kgL_c (kA kl788) (kgL_c (kA kl803) kgL_k))))) rfl rfl rfl (by decide +kernel) ⟨Nat.le_of_ble_eq_true rfl, Nat.le_of_ble_eq_true rfl⟩) (kg_recv G 0 0 (by decide) rfl (q := (RX11, TX11, 35)) rfl) (kCut_LM G) rfl hl.1 rfl (Nat.le_of_ble_eq_true rfl) dL_law_704 ⟨kroom2 hcs.1 (Nat.le_of_ble_eq_true rfl), kroom2 hcs.2 (Nat.le_of_ble_eq_true rfl)⟩ (cN := cells + 1) (sN := slots + 6) ⟨rfl, rfl⟩ (fun H locs G => ?_)
      refine lv_iload F.1 F.2.1 dL_law_707 (lv_at hl 1 rfl) ?_
      refine lv_icmp_eq (tgt := 714) F.1 F.2.1 dL_law_709 (by decide) (fun c => ?_) (fun c => absurd hthr c)
      refine lv_iload F.1 F.2.1 dL_law_714 (lv_at hl 1 rfl) ?_
      refine lv_if_ne (tgt := 731) F.1 F.2.1 dL_law_716 (by decide) (fun c => ?_) (fun c => absurd c (by decide))
      refine lv_goto (tgt := 1909) F.1 F.2.1 dL_law_731 (by decide) ?_
      exact kk tx ps nm v vn hs ww out zR _ _ _ hS G (lv_sub hl [2, 3, 4, 5, 6] rfl)
set_option maxHeartbeats 8000000 in
set_option maxRecDepth 100000 in
theorem lc_outletsWith {Sim : (Nat → Nat → Int32) → (Nat → Nat → Int32) → (Nat → Int64) → (Nat → Nat → Int32) → (Nat → Int64) → (Nat → Nat → Int32) → (Nat → Nat → Nat → Int32) → (Nat → Nat → Int32) → Prop} (Hs : St_outletsWith Sim) (hst : l.stackTraces = false) (F : CallFix p m c code 9 s args kAll RL) (hAL : ∀ w ∈ kAL, w.before args s = true) (hr : meth.sig.returnType = ret) (hlk : meth.locks = false) (hX : va_X b L xs s s.heap) (hbl : b < s.heap.size) (hbA : ¬ A b) {x4 : Int32} (hi1 : vp_in (x4 + 1) L) (hi2 : vp_in (x4 + 2) L) (hi3 : vp_in (x4 + 3) L) (hi4 : vp_in (x4 + 4) L) (hi5 : vp_in (x4 + 5) L) (hcs : cells + 2 ≤ 601024 ∧ slots + 12 ≤ 7293034) (hS : Sim tx ps nm v vn hs ww z)
    (kk : ∀ (tx : Nat → Nat → Int32) (ps : Nat → Nat → Int32) (nm : Nat → Int64) (v : Nat → Nat → Int32) (vn : Nat → Int64) (hs : Nat → Nat → Int32) (ww : Nat → Nat → Nat → Int32) (out : Nat → Int64) (z : Nat → Nat → Int32) (H : Heap) (locs : List Loc) (ls : Array Slot), Sim tx ps nm v vn hs ww z → Rg D T A s (gL T aF aR aD aP aH aW aO aM tx ps nm v vn hs ww out z) H locs → lv_has ls 9 [(4, .int x4), (3, .ref aO), (2, .ref (aM 0)), (1, .ref (aF 0)), (0, .ref b)] → W p l e room_1 s m args below meth c H locs (cells + 1) (slots + 6) Q (F0 m 1909 ls []))
    (G : Rg D T A s (gL T aF aR aD aP aH aW aO aM tx ps nm v vn hs ww out z) H locs) (hl : lv_has ls 9 [(4, .int x4), (3, .ref aO), (2, .ref (aM 0)), (1, .ref (aF 0)), (0, .ref b)]) : W p l e room_1 s m args below meth c H locs cells slots Q (F0 m 734 ls []) := by
  by_cases hb : xs (x4 + 2).toNatClampNeg = 0
  · skip
    refine lv_aload_n F.1 F.2.1 dL_law_734 rfl (lv_at hl 3 rfl) ?_
    refine lv_aload_n F.1 F.2.1 dL_law_735 rfl (lv_at hl 4 rfl) ?_
    refine lv_iload F.1 F.2.1 dL_law_736 (lv_at hl 0 rfl) ?_
    refine lv_iconst (v := 1) F.1 F.2.1 dL_law_738 (by decide) ?_
    refine lv_iadd F.1 F.2.1 dL_law_739 ?_
    refine va_sld F.1 F.2.1 hX hbl hbA G.2.2.2.1 hi1 dL_law_740 ?_
    refine lv_aload_n F.1 F.2.1 dL_law_741 rfl (lv_at hl 4 rfl) ?_
    refine lv_iload F.1 F.2.1 dL_law_742 (lv_at hl 0 rfl) ?_
    refine lv_iconst (v := 2) F.1 F.2.1 dL_law_744 (by decide) ?_
    refine lv_iadd F.1 F.2.1 dL_law_745 ?_
    refine va_sld F.1 F.2.1 hX hbl hbA G.2.2.2.1 hi2 dL_law_746 ?_
    refine lv_if_eq (tgt := 754) F.1 F.2.1 dL_law_747 (by decide) (fun c => ?_) (fun c => absurd hb c)
    refine lv_iconst (v := 0) F.1 F.2.1 dL_law_754 (by decide) ?_
    refine lv_aload_n F.1 F.2.1 dL_law_755 rfl (lv_at hl 1 rfl) ?_
    obtain ⟨e, r, b', zR, h1, h2, hd, hSR⟩ := Hs tx ps nm v vn hs ww z hS (xs (x4 + 1).toNatClampNeg) 0 (Or.inl rfl)
    rcases hd with ⟨rfl, hz, rfl⟩ | ⟨rfl, hz⟩
    · have hthr : zR 0 0 = 0 := hz
      refine kl_callSW (rv := some (.int 0)) (Wc := gO T aF aR aD aP aH aW aO tx ps nm v vn hs ww out) (W2 := gO T aF aR aD aP aH aW aO tx ps nm v vn hs ww (vp_updL out 0 r.toInt64)) (Wn := gL T aF aR aD aP aH aW aO aM tx ps nm v vn hs ww (vp_updL out 0 r.toInt64) z) (As := [.ref (aF 0), .int (xs (x4 + 1).toNatClampNeg), .int 0, .ref aO]) (rest := []) F G (mL_outletsWith l hst D T aF aR aD aP aH aW aO tx ps nm v vn hs ww out (xs (x4 + 1).toNatClampNeg) 0 (k := 0) (outR := (vp_updL out 0 r.toInt64)) h1 (Or.inl ⟨rfl, rfl, rfl⟩)) (vx_cwSW 4 hAL (kgL_c kLl146 (kgL_c kLl147 (kgL_c kLl84 (kgL_c kLl148 kgL_a)))) rfl rfl rfl (by decide +kernel) ⟨Nat.le_of_ble_eq_true rfl, Nat.le_of_ble_eq_true rfl⟩) (kCut_LO G) rfl hl.1 rfl (Nat.le_of_ble_eq_true rfl) dL_law_756 ⟨kroom1 hcs.1 (Nat.le_of_ble_eq_true rfl), kroom1 hcs.2 (Nat.le_of_ble_eq_true rfl)⟩ (cN := cells + 1) (sN := slots + 6) ⟨rfl, rfl⟩ (fun H locs G => ?_)
      have hcmp : lg_cmp ((vp_updL out 0 r.toInt64) (0 : Int32).toNatClampNeg) r.toInt64 = 0 := lg_same _ _
      refine lv_istore (lv' := [(5, .int 0), (4, .int x4), (3, .ref aO), (2, .ref (aM 0)), (1, .ref (aF 0)), (0, .ref b)]) F.1 F.2.1 dL_law_759 hl (by decide) rfl (fun ls hl => ?_)
      refine lv_aload_n F.1 F.2.1 dL_law_761 rfl (lv_at hl 3 rfl) ?_
      refine lv_aload_n F.1 F.2.1 dL_law_762 rfl (lv_at hl 5 rfl) ?_
      refine lv_iload F.1 F.2.1 dL_law_763 (lv_at hl 1 rfl) ?_
      refine lv_iconst (v := 1) F.1 F.2.1 dL_law_765 (by decide) ?_
      refine lv_iadd F.1 F.2.1 dL_law_766 ?_
      refine va_sld F.1 F.2.1 hX hbl hbA G.2.2.2.1 hi1 dL_law_767 ?_
      refine lv_aload_n F.1 F.2.1 dL_law_768 rfl (lv_at hl 5 rfl) ?_
      refine lv_iload F.1 F.2.1 dL_law_769 (lv_at hl 1 rfl) ?_
      refine lv_iconst (v := 2) F.1 F.2.1 dL_law_771 (by decide) ?_
      refine lv_iadd F.1 F.2.1 dL_law_772 ?_
      refine va_sld F.1 F.2.1 hX hbl hbA G.2.2.2.1 hi2 dL_law_773 ?_
      refine lv_if_eq (tgt := 781) F.1 F.2.1 dL_law_774 (by decide) (fun c => ?_) (fun c => absurd hb c)
      refine lv_iconst (v := 0) F.1 F.2.1 dL_law_781 (by decide) ?_
      refine k_callVR (rv := _) (Wc := gM T aM z) (W2 := gM T aM zR) (Wn := gL T aF aR aD aP aH aW aO aM tx ps nm v vn hs ww (vp_updL out 0 r.toInt64) zR) (As := [.int (xs (x4 + 1).toNatClampNeg), .int 0]) (rest := []) F G (mX11_outletsWith l D T aM z (xs (x4 + 1).toNatClampNeg) 0 h2) (cwV 2 hAL (kgL_c kLl149 (kgL_c kLl150 (kgL_c kLl151 (kgL_c (kA kl788) (kgL_c (kA kl995) kgL_k))))) rfl rfl rfl (by decide +kernel) ⟨Nat.le_of_ble_eq_true rfl, Nat.le_of_ble_eq_true rfl⟩) (kg_recv G 0 0 (by decide) rfl (q := (RX11, TX11, 35)) rfl) (kCut_LM G) rfl hl.1 rfl (Nat.le_of_ble_eq_true rfl) dL_law_782 ⟨kroom2 hcs.1 (Nat.le_of_ble_eq_true rfl), kroom2 hcs.2 (Nat.le_of_ble_eq_true rfl)⟩ (cN := cells + 1) (sN := slots + 6) ⟨rfl, rfl⟩ (fun H locs G => ?_)
      have hS := hSR
      refine lv_istore (lv' := [(6, .int r), (5, .int 0), (4, .int x4), (3, .ref aO), (2, .ref (aM 0)), (1, .ref (aF 0)), (0, .ref b)]) F.1 F.2.1 dL_law_785 hl (by decide) rfl (fun ls hl => ?_)
      refine lv_aload_n F.1 F.2.1 dL_law_787 rfl (lv_at hl 4 rfl) ?_
      refine k_callVR (rv := (some (.int (zR 0 0)))) (Wc := gM T aM zR) (W2 := gM T aM zR) (Wn := gL T aF aR aD aP aH aW aO aM tx ps nm v vn hs ww (vp_updL out 0 r.toInt64) zR) (As := []) (rest := []) F G (mX11_thrown l D T aM zR rfl) (cwV 0 hAL (kgL_c kLl89 (kgL_c kLl90 (kgL_c kLl91 (kgL_c (kA kl788) (kgL_c (kA kl803) kgL_k))))) rfl rfl rfl (by decide +kernel) ⟨Nat.le_of_ble_eq_true rfl, Nat.le_of_ble_eq_true rfl⟩) (kg_recv G 0 0 (by decide) rfl (q := (RX11, TX11, 35)) rfl) (kCut_LM G) rfl hl.1 rfl (Nat.le_of_ble_eq_true rfl) dL_law_788 ⟨kroom2 hcs.1 (Nat.le_of_ble_eq_true rfl), kroom2 hcs.2 (Nat.le_of_ble_eq_true rfl)⟩ (cN := cells + 1) (sN := slots + 6) ⟨rfl, rfl⟩ (fun H locs G => ?_)
      refine lv_iload F.1 F.2.1 dL_law_791 (lv_at hl 1 rfl) ?_
      refine lv_icmp_eq (tgt := 798) F.1 F.2.1 dL_law_793 (by decide) (fun c => ?_) (fun c => absurd hthr c)
      refine lv_iload F.1 F.2.1 dL_law_798 (lv_at hl 1 rfl) ?_
      refine lv_if_ne (tgt := 815) F.1 F.2.1 dL_law_800 (by decide) (fun c => absurd (by decide) c) (fun c => ?_)
      refine lv_aload_n F.1 F.2.1 dL_law_803 rfl (lv_at hl 3 rfl) ?_
      refine lv_iconst (v := 0) F.1 F.2.1 dL_law_804 (by decide) ?_
      refine kg_lald F G 1 0 (by decide) rfl (i := 0) (kin (by decide +kernel)) dL_law_805 ?_
      refine lv_iload F.1 F.2.1 dL_law_806 (lv_at hl 0 rfl) ?_
      refine lv_i2l (v := r.toInt64) F.1 F.2.1 dL_law_808 rfl ?_
      refine W.lcmp F.1 F.2.1 dL_law_809 ?_
      refine lv_if_eq (tgt := 815) F.1 F.2.1 dL_law_810 (by decide) (fun c => ?_) (fun c => absurd hcmp c)
      refine lv_goto (tgt := 1909) F.1 F.2.1 dL_law_815 (by decide) ?_
      exact kk tx ps nm v vn hs ww (vp_updL out 0 r.toInt64) zR _ _ _ hS G (lv_sub hl [2, 3, 4, 5, 6] rfl)
    · have hthr : zR 0 0 = 1 := hz
      refine kl_callSW (rv := some (.int 1)) (Wc := gO T aF aR aD aP aH aW aO tx ps nm v vn hs ww out) (W2 := gO T aF aR aD aP aH aW aO tx ps nm v vn hs ww out) (Wn := gL T aF aR aD aP aH aW aO aM tx ps nm v vn hs ww out z) (As := [.ref (aF 0), .int (xs (x4 + 1).toNatClampNeg), .int 0, .ref aO]) (rest := []) F G (mL_outletsWith l hst D T aF aR aD aP aH aW aO tx ps nm v vn hs ww out (xs (x4 + 1).toNatClampNeg) 0 (k := 1) (outR := out) h1 (Or.inr ⟨rfl, rfl, rfl⟩)) (vx_cwSW 4 hAL (kgL_c kLl146 (kgL_c kLl147 (kgL_c kLl84 (kgL_c kLl148 kgL_a)))) rfl rfl rfl (by decide +kernel) ⟨Nat.le_of_ble_eq_true rfl, Nat.le_of_ble_eq_true rfl⟩) (kCut_LO G) rfl hl.1 rfl (Nat.le_of_ble_eq_true rfl) dL_law_756 ⟨kroom1 hcs.1 (Nat.le_of_ble_eq_true rfl), kroom1 hcs.2 (Nat.le_of_ble_eq_true rfl)⟩ (cN := cells + 1) (sN := slots + 6) ⟨rfl, rfl⟩ (fun H locs G => ?_)
      refine lv_istore (lv' := [(5, .int 1), (4, .int x4), (3, .ref aO), (2, .ref (aM 0)), (1, .ref (aF 0)), (0, .ref b)]) F.1 F.2.1 dL_law_759 hl (by decide) rfl (fun ls hl => ?_)
      refine lv_aload_n F.1 F.2.1 dL_law_761 rfl (lv_at hl 3 rfl) ?_
      refine lv_aload_n F.1 F.2.1 dL_law_762 rfl (lv_at hl 5 rfl) ?_
      refine lv_iload F.1 F.2.1 dL_law_763 (lv_at hl 1 rfl) ?_
      refine lv_iconst (v := 1) F.1 F.2.1 dL_law_765 (by decide) ?_
      refine lv_iadd F.1 F.2.1 dL_law_766 ?_
      refine va_sld F.1 F.2.1 hX hbl hbA G.2.2.2.1 hi1 dL_law_767 ?_
      refine lv_aload_n F.1 F.2.1 dL_law_768 rfl (lv_at hl 5 rfl) ?_
      refine lv_iload F.1 F.2.1 dL_law_769 (lv_at hl 1 rfl) ?_
      refine lv_iconst (v := 2) F.1 F.2.1 dL_law_771 (by decide) ?_
      refine lv_iadd F.1 F.2.1 dL_law_772 ?_
      refine va_sld F.1 F.2.1 hX hbl hbA G.2.2.2.1 hi2 dL_law_773 ?_
      refine lv_if_eq (tgt := 781) F.1 F.2.1 dL_law_774 (by decide) (fun c => ?_) (fun c => absurd hb c)
      refine lv_iconst (v := 0) F.1 F.2.1 dL_law_781 (by decide) ?_
      refine k_callVR (rv := _) (Wc := gM T aM z) (W2 := gM T aM zR) (Wn := gL T aF aR aD aP aH aW aO aM tx ps nm v vn hs ww out zR) (As := [.int (xs (x4 + 1).toNatClampNeg), .int 0]) (rest := []) F G (mX11_outletsWith l D T aM z (xs (x4 + 1).toNatClampNeg) 0 h2) (cwV 2 hAL (kgL_c kLl149 (kgL_c kLl150 (kgL_c kLl151 (kgL_c (kA kl788) (kgL_c (kA kl995) kgL_k))))) rfl rfl rfl (by decide +kernel) ⟨Nat.le_of_ble_eq_true rfl, Nat.le_of_ble_eq_true rfl⟩) (kg_recv G 0 0 (by decide) rfl (q := (RX11, TX11, 35)) rfl) (kCut_LM G) rfl hl.1 rfl (Nat.le_of_ble_eq_true rfl) dL_law_782 ⟨kroom2 hcs.1 (Nat.le_of_ble_eq_true rfl), kroom2 hcs.2 (Nat.le_of_ble_eq_true rfl)⟩ (cN := cells + 1) (sN := slots + 6) ⟨rfl, rfl⟩ (fun H locs G => ?_)
      have hS := hSR
      refine lv_istore (lv' := [(6, .int b'), (5, .int 1), (4, .int x4), (3, .ref aO), (2, .ref (aM 0)), (1, .ref (aF 0)), (0, .ref b)]) F.1 F.2.1 dL_law_785 hl (by decide) rfl (fun ls hl => ?_)
      refine lv_aload_n F.1 F.2.1 dL_law_787 rfl (lv_at hl 4 rfl) ?_
      refine k_callVR (rv := (some (.int (zR 0 0)))) (Wc := gM T aM zR) (W2 := gM T aM zR) (Wn := gL T aF aR aD aP aH aW aO aM tx ps nm v vn hs ww out zR) (As := []) (rest := []) F G (mX11_thrown l D T aM zR rfl) (cwV 0 hAL (kgL_c kLl89 (kgL_c kLl90 (kgL_c kLl91 (kgL_c (kA kl788) (kgL_c (kA kl803) kgL_k))))) rfl rfl rfl (by decide +kernel) ⟨Nat.le_of_ble_eq_true rfl, Nat.le_of_ble_eq_true rfl⟩) (kg_recv G 0 0 (by decide) rfl (q := (RX11, TX11, 35)) rfl) (kCut_LM G) rfl hl.1 rfl (Nat.le_of_ble_eq_true rfl) dL_law_788 ⟨kroom2 hcs.1 (Nat.le_of_ble_eq_true rfl), kroom2 hcs.2 (Nat.le_of_ble_eq_true rfl)⟩ (cN := cells + 1) (sN := slots + 6) ⟨rfl, rfl⟩ (fun H locs G => ?_)
      refine lv_iload F.1 F.2.1 dL_law_791 (lv_at hl 1 rfl) ?_
      refine lv_icmp_eq (tgt := 798) F.1 F.2.1 dL_law_793 (by decide) (fun c => ?_) (fun c => absurd hthr c)
      refine lv_iload F.1 F.2.1 dL_law_798 (lv_at hl 1 rfl) ?_
      refine lv_if_ne (tgt := 815) F.1 F.2.1 dL_law_800 (by decide) (fun c => ?_) (fun c => absurd c (by decide))
      refine lv_goto (tgt := 1909) F.1 F.2.1 dL_law_815 (by decide) ?_
      exact kk tx ps nm v vn hs ww out zR _ _ _ hS G (lv_sub hl [2, 3, 4, 5, 6] rfl)
  · skip
    refine lv_aload_n F.1 F.2.1 dL_law_734 rfl (lv_at hl 3 rfl) ?_
    refine lv_aload_n F.1 F.2.1 dL_law_735 rfl (lv_at hl 4 rfl) ?_
    refine lv_iload F.1 F.2.1 dL_law_736 (lv_at hl 0 rfl) ?_
    refine lv_iconst (v := 1) F.1 F.2.1 dL_law_738 (by decide) ?_
    refine lv_iadd F.1 F.2.1 dL_law_739 ?_
    refine va_sld F.1 F.2.1 hX hbl hbA G.2.2.2.1 hi1 dL_law_740 ?_
    refine lv_aload_n F.1 F.2.1 dL_law_741 rfl (lv_at hl 4 rfl) ?_
    refine lv_iload F.1 F.2.1 dL_law_742 (lv_at hl 0 rfl) ?_
    refine lv_iconst (v := 2) F.1 F.2.1 dL_law_744 (by decide) ?_
    refine lv_iadd F.1 F.2.1 dL_law_745 ?_
    refine va_sld F.1 F.2.1 hX hbl hbA G.2.2.2.1 hi2 dL_law_746 ?_
    refine lv_if_eq (tgt := 754) F.1 F.2.1 dL_law_747 (by decide) (fun c => absurd c hb) (fun c => ?_)
    refine lv_iconst (v := 1) F.1 F.2.1 dL_law_750 (by decide) ?_
    refine lv_goto (tgt := 755) F.1 F.2.1 dL_law_751 (by decide) ?_
    refine lv_aload_n F.1 F.2.1 dL_law_755 rfl (lv_at hl 1 rfl) ?_
    obtain ⟨e, r, b', zR, h1, h2, hd, hSR⟩ := Hs tx ps nm v vn hs ww z hS (xs (x4 + 1).toNatClampNeg) 1 (Or.inr rfl)
    rcases hd with ⟨rfl, hz, rfl⟩ | ⟨rfl, hz⟩
    · have hthr : zR 0 0 = 0 := hz
      refine kl_callSW (rv := some (.int 0)) (Wc := gO T aF aR aD aP aH aW aO tx ps nm v vn hs ww out) (W2 := gO T aF aR aD aP aH aW aO tx ps nm v vn hs ww (vp_updL out 0 r.toInt64)) (Wn := gL T aF aR aD aP aH aW aO aM tx ps nm v vn hs ww (vp_updL out 0 r.toInt64) z) (As := [.ref (aF 0), .int (xs (x4 + 1).toNatClampNeg), .int 1, .ref aO]) (rest := []) F G (mL_outletsWith l hst D T aF aR aD aP aH aW aO tx ps nm v vn hs ww out (xs (x4 + 1).toNatClampNeg) 1 (k := 0) (outR := (vp_updL out 0 r.toInt64)) h1 (Or.inl ⟨rfl, rfl, rfl⟩)) (vx_cwSW 4 hAL (kgL_c kLl146 (kgL_c kLl147 (kgL_c kLl84 (kgL_c kLl148 kgL_a)))) rfl rfl rfl (by decide +kernel) ⟨Nat.le_of_ble_eq_true rfl, Nat.le_of_ble_eq_true rfl⟩) (kCut_LO G) rfl hl.1 rfl (Nat.le_of_ble_eq_true rfl) dL_law_756 ⟨kroom1 hcs.1 (Nat.le_of_ble_eq_true rfl), kroom1 hcs.2 (Nat.le_of_ble_eq_true rfl)⟩ (cN := cells + 1) (sN := slots + 6) ⟨rfl, rfl⟩ (fun H locs G => ?_)
      have hcmp : lg_cmp ((vp_updL out 0 r.toInt64) (0 : Int32).toNatClampNeg) r.toInt64 = 0 := lg_same _ _
      refine lv_istore (lv' := [(5, .int 0), (4, .int x4), (3, .ref aO), (2, .ref (aM 0)), (1, .ref (aF 0)), (0, .ref b)]) F.1 F.2.1 dL_law_759 hl (by decide) rfl (fun ls hl => ?_)
      refine lv_aload_n F.1 F.2.1 dL_law_761 rfl (lv_at hl 3 rfl) ?_
      refine lv_aload_n F.1 F.2.1 dL_law_762 rfl (lv_at hl 5 rfl) ?_
      refine lv_iload F.1 F.2.1 dL_law_763 (lv_at hl 1 rfl) ?_
      refine lv_iconst (v := 1) F.1 F.2.1 dL_law_765 (by decide) ?_
      refine lv_iadd F.1 F.2.1 dL_law_766 ?_
      refine va_sld F.1 F.2.1 hX hbl hbA G.2.2.2.1 hi1 dL_law_767 ?_
      refine lv_aload_n F.1 F.2.1 dL_law_768 rfl (lv_at hl 5 rfl) ?_
      refine lv_iload F.1 F.2.1 dL_law_769 (lv_at hl 1 rfl) ?_
      refine lv_iconst (v := 2) F.1 F.2.1 dL_law_771 (by decide) ?_
      refine lv_iadd F.1 F.2.1 dL_law_772 ?_
      refine va_sld F.1 F.2.1 hX hbl hbA G.2.2.2.1 hi2 dL_law_773 ?_
      refine lv_if_eq (tgt := 781) F.1 F.2.1 dL_law_774 (by decide) (fun c => absurd c hb) (fun c => ?_)
      refine lv_iconst (v := 1) F.1 F.2.1 dL_law_777 (by decide) ?_
      refine lv_goto (tgt := 782) F.1 F.2.1 dL_law_778 (by decide) ?_
      refine k_callVR (rv := _) (Wc := gM T aM z) (W2 := gM T aM zR) (Wn := gL T aF aR aD aP aH aW aO aM tx ps nm v vn hs ww (vp_updL out 0 r.toInt64) zR) (As := [.int (xs (x4 + 1).toNatClampNeg), .int 1]) (rest := []) F G (mX11_outletsWith l D T aM z (xs (x4 + 1).toNatClampNeg) 1 h2) (cwV 2 hAL (kgL_c kLl149 (kgL_c kLl150 (kgL_c kLl151 (kgL_c (kA kl788) (kgL_c (kA kl995) kgL_k))))) rfl rfl rfl (by decide +kernel) ⟨Nat.le_of_ble_eq_true rfl, Nat.le_of_ble_eq_true rfl⟩) (kg_recv G 0 0 (by decide) rfl (q := (RX11, TX11, 35)) rfl) (kCut_LM G) rfl hl.1 rfl (Nat.le_of_ble_eq_true rfl) dL_law_782 ⟨kroom2 hcs.1 (Nat.le_of_ble_eq_true rfl), kroom2 hcs.2 (Nat.le_of_ble_eq_true rfl)⟩ (cN := cells + 1) (sN := slots + 6) ⟨rfl, rfl⟩ (fun H locs G => ?_)
      have hS := hSR
      refine lv_istore (lv' := [(6, .int r), (5, .int 0), (4, .int x4), (3, .ref aO), (2, .ref (aM 0)), (1, .ref (aF 0)), (0, .ref b)]) F.1 F.2.1 dL_law_785 hl (by decide) rfl (fun ls hl => ?_)
      refine lv_aload_n F.1 F.2.1 dL_law_787 rfl (lv_at hl 4 rfl) ?_
      refine k_callVR (rv := (some (.int (zR 0 0)))) (Wc := gM T aM zR) (W2 := gM T aM zR) (Wn := gL T aF aR aD aP aH aW aO aM tx ps nm v vn hs ww (vp_updL out 0 r.toInt64) zR) (As := []) (rest := []) F G (mX11_thrown l D T aM zR rfl) (cwV 0 hAL (kgL_c kLl89 (kgL_c kLl90 (kgL_c kLl91 (kgL_c (kA kl788) (kgL_c (kA kl803) kgL_k))))) rfl rfl rfl (by decide +kernel) ⟨Nat.le_of_ble_eq_true rfl, Nat.le_of_ble_eq_true rfl⟩) (kg_recv G 0 0 (by decide) rfl (q := (RX11, TX11, 35)) rfl) (kCut_LM G) rfl hl.1 rfl (Nat.le_of_ble_eq_true rfl) dL_law_788 ⟨kroom2 hcs.1 (Nat.le_of_ble_eq_true rfl), kroom2 hcs.2 (Nat.le_of_ble_eq_true rfl)⟩ (cN := cells + 1) (sN := slots + 6) ⟨rfl, rfl⟩ (fun H locs G => ?_)
      refine lv_iload F.1 F.2.1 dL_law_791 (lv_at hl 1 rfl) ?_
      refine lv_icmp_eq (tgt := 798) F.1 F.2.1 dL_law_793 (by decide) (fun c => ?_) (fun c => absurd hthr c)
      refine lv_iload F.1 F.2.1 dL_law_798 (lv_at hl 1 rfl) ?_
      refine lv_if_ne (tgt := 815) F.1 F.2.1 dL_law_800 (by decide) (fun c => absurd (by decide) c) (fun c => ?_)
      refine lv_aload_n F.1 F.2.1 dL_law_803 rfl (lv_at hl 3 rfl) ?_
      refine lv_iconst (v := 0) F.1 F.2.1 dL_law_804 (by decide) ?_
      refine kg_lald F G 1 0 (by decide) rfl (i := 0) (kin (by decide +kernel)) dL_law_805 ?_
      refine lv_iload F.1 F.2.1 dL_law_806 (lv_at hl 0 rfl) ?_
      refine lv_i2l (v := r.toInt64) F.1 F.2.1 dL_law_808 rfl ?_
      refine W.lcmp F.1 F.2.1 dL_law_809 ?_
      refine lv_if_eq (tgt := 815) F.1 F.2.1 dL_law_810 (by decide) (fun c => ?_) (fun c => absurd hcmp c)
      refine lv_goto (tgt := 1909) F.1 F.2.1 dL_law_815 (by decide) ?_
      exact kk tx ps nm v vn hs ww (vp_updL out 0 r.toInt64) zR _ _ _ hS G (lv_sub hl [2, 3, 4, 5, 6] rfl)
    · have hthr : zR 0 0 = 1 := hz
      refine kl_callSW (rv := some (.int 1)) (Wc := gO T aF aR aD aP aH aW aO tx ps nm v vn hs ww out) (W2 := gO T aF aR aD aP aH aW aO tx ps nm v vn hs ww out) (Wn := gL T aF aR aD aP aH aW aO aM tx ps nm v vn hs ww out z) (As := [.ref (aF 0), .int (xs (x4 + 1).toNatClampNeg), .int 1, .ref aO]) (rest := []) F G (mL_outletsWith l hst D T aF aR aD aP aH aW aO tx ps nm v vn hs ww out (xs (x4 + 1).toNatClampNeg) 1 (k := 1) (outR := out) h1 (Or.inr ⟨rfl, rfl, rfl⟩)) (vx_cwSW 4 hAL (kgL_c kLl146 (kgL_c kLl147 (kgL_c kLl84 (kgL_c kLl148 kgL_a)))) rfl rfl rfl (by decide +kernel) ⟨Nat.le_of_ble_eq_true rfl, Nat.le_of_ble_eq_true rfl⟩) (kCut_LO G) rfl hl.1 rfl (Nat.le_of_ble_eq_true rfl) dL_law_756 ⟨kroom1 hcs.1 (Nat.le_of_ble_eq_true rfl), kroom1 hcs.2 (Nat.le_of_ble_eq_true rfl)⟩ (cN := cells + 1) (sN := slots + 6) ⟨rfl, rfl⟩ (fun H locs G => ?_)
      refine lv_istore (lv' := [(5, .int 1), (4, .int x4), (3, .ref aO), (2, .ref (aM 0)), (1, .ref (aF 0)), (0, .ref b)]) F.1 F.2.1 dL_law_759 hl (by decide) rfl (fun ls hl => ?_)
      refine lv_aload_n F.1 F.2.1 dL_law_761 rfl (lv_at hl 3 rfl) ?_
      refine lv_aload_n F.1 F.2.1 dL_law_762 rfl (lv_at hl 5 rfl) ?_
      refine lv_iload F.1 F.2.1 dL_law_763 (lv_at hl 1 rfl) ?_
      refine lv_iconst (v := 1) F.1 F.2.1 dL_law_765 (by decide) ?_
      refine lv_iadd F.1 F.2.1 dL_law_766 ?_
      refine va_sld F.1 F.2.1 hX hbl hbA G.2.2.2.1 hi1 dL_law_767 ?_
      refine lv_aload_n F.1 F.2.1 dL_law_768 rfl (lv_at hl 5 rfl) ?_
      refine lv_iload F.1 F.2.1 dL_law_769 (lv_at hl 1 rfl) ?_
      refine lv_iconst (v := 2) F.1 F.2.1 dL_law_771 (by decide) ?_
      refine lv_iadd F.1 F.2.1 dL_law_772 ?_
      refine va_sld F.1 F.2.1 hX hbl hbA G.2.2.2.1 hi2 dL_law_773 ?_
      refine lv_if_eq (tgt := 781) F.1 F.2.1 dL_law_774 (by decide) (fun c => absurd c hb) (fun c => ?_)
      refine lv_iconst (v := 1) F.1 F.2.1 dL_law_777 (by decide) ?_
      refine lv_goto (tgt := 782) F.1 F.2.1 dL_law_778 (by decide) ?_
      refine k_callVR (rv := _) (Wc := gM T aM z) (W2 := gM T aM zR) (Wn := gL T aF aR aD aP aH aW aO aM tx ps nm v vn hs ww out zR) (As := [.int (xs (x4 + 1).toNatClampNeg), .int 1]) (rest := []) F G (mX11_outletsWith l D T aM z (xs (x4 + 1).toNatClampNeg) 1 h2) (cwV 2 hAL (kgL_c kLl149 (kgL_c kLl150 (kgL_c kLl151 (kgL_c (kA kl788) (kgL_c (kA kl995) kgL_k))))) rfl rfl rfl (by decide +kernel) ⟨Nat.le_of_ble_eq_true rfl, Nat.le_of_ble_eq_true rfl⟩) (kg_recv G 0 0 (by decide) rfl (q := (RX11, TX11, 35)) rfl) (kCut_LM G) rfl hl.1 rfl (Nat.le_of_ble_eq_true rfl) dL_law_782 ⟨kroom2 hcs.1 (Nat.le_of_ble_eq_true rfl), kroom2 hcs.2 (Nat.le_of_ble_eq_true rfl)⟩ (cN := cells + 1) (sN := slots + 6) ⟨rfl, rfl⟩ (fun H locs G => ?_)
      have hS := hSR
      refine lv_istore (lv' := [(6, .int b'), (5, .int 1), (4, .int x4), (3, .ref aO), (2, .ref (aM 0)), (1, .ref (aF 0)), (0, .ref b)]) F.1 F.2.1 dL_law_785 hl (by decide) rfl (fun ls hl => ?_)
      refine lv_aload_n F.1 F.2.1 dL_law_787 rfl (lv_at hl 4 rfl) ?_
      refine k_callVR (rv := (some (.int (zR 0 0)))) (Wc := gM T aM zR) (W2 := gM T aM zR) (Wn := gL T aF aR aD aP aH aW aO aM tx ps nm v vn hs ww out zR) (As := []) (rest := []) F G (mX11_thrown l D T aM zR rfl) (cwV 0 hAL (kgL_c kLl89 (kgL_c kLl90 (kgL_c kLl91 (kgL_c (kA kl788) (kgL_c (kA kl803) kgL_k))))) rfl rfl rfl (by decide +kernel) ⟨Nat.le_of_ble_eq_true rfl, Nat.le_of_ble_eq_true rfl⟩) (kg_recv G 0 0 (by decide) rfl (q := (RX11, TX11, 35)) rfl) (kCut_LM G) rfl hl.1 rfl (Nat.le_of_ble_eq_true rfl) dL_law_788 ⟨kroom2 hcs.1 (Nat.le_of_ble_eq_true rfl), kroom2 hcs.2 (Nat.le_of_ble_eq_true rfl)⟩ (cN := cells + 1) (sN := slots + 6) ⟨rfl, rfl⟩ (fun H locs G => ?_)
      refine lv_iload F.1 F.2.1 dL_law_791 (lv_at hl 1 rfl) ?_
      refine lv_icmp_eq (tgt := 798) F.1 F.2.1 dL_law_793 (by decide) (fun c => ?_) (fun c => absurd hthr c)
      refine lv_iload F.1 F.2.1 dL_law_798 (lv_at hl 1 rfl) ?_
      refine lv_if_ne (tgt := 815) F.1 F.2.1 dL_law_800 (by decide) (fun c => ?_) (fun c => absurd c (by decide))
      refine lv_goto (tgt := 1909) F.1 F.2.1 dL_law_815 (by decide) ?_
      exact kk tx ps nm v vn hs ww out zR _ _ _ hS G (lv_sub hl [2, 3, 4, 5, 6] rfl)
set_option maxHeartbeats 8000000 in
set_option maxRecDepth 100000 in
theorem lc_rights {Sim : (Nat → Nat → Int32) → (Nat → Nat → Int32) → (Nat → Int64) → (Nat → Nat → Int32) → (Nat → Int64) → (Nat → Nat → Int32) → (Nat → Nat → Nat → Int32) → (Nat → Nat → Int32) → Prop} (Hs : St_rights Sim) (hst : l.stackTraces = false) (F : CallFix p m c code 9 s args kAll RL) (hAL : ∀ w ∈ kAL, w.before args s = true) (hr : meth.sig.returnType = ret) (hlk : meth.locks = false) (hX : va_X b L xs s s.heap) (hbl : b < s.heap.size) (hbA : ¬ A b) {x4 : Int32} (hi1 : vp_in (x4 + 1) L) (hi2 : vp_in (x4 + 2) L) (hi3 : vp_in (x4 + 3) L) (hi4 : vp_in (x4 + 4) L) (hi5 : vp_in (x4 + 5) L) (hcs : cells + 2 ≤ 601024 ∧ slots + 12 ≤ 7293034) (hS : Sim tx ps nm v vn hs ww z)
    (kk : ∀ (tx : Nat → Nat → Int32) (ps : Nat → Nat → Int32) (nm : Nat → Int64) (v : Nat → Nat → Int32) (vn : Nat → Int64) (hs : Nat → Nat → Int32) (ww : Nat → Nat → Nat → Int32) (out : Nat → Int64) (z : Nat → Nat → Int32) (H : Heap) (locs : List Loc) (ls : Array Slot), Sim tx ps nm v vn hs ww z → Rg D T A s (gL T aF aR aD aP aH aW aO aM tx ps nm v vn hs ww out z) H locs → lv_has ls 9 [(4, .int x4), (3, .ref aO), (2, .ref (aM 0)), (1, .ref (aF 0)), (0, .ref b)] → W p l e room_1 s m args below meth c H locs (cells + 0) (slots + 0) Q (F0 m 1909 ls []))
    (G : Rg D T A s (gL T aF aR aD aP aH aW aO aM tx ps nm v vn hs ww out z) H locs) (hl : lv_has ls 9 [(4, .int x4), (3, .ref aO), (2, .ref (aM 0)), (1, .ref (aF 0)), (0, .ref b)]) : W p l e room_1 s m args below meth c H locs cells slots Q (F0 m 818 ls []) := by
  refine lv_aload_n F.1 F.2.1 dL_law_818 rfl (lv_at hl 3 rfl) ?_
  obtain ⟨r, b', zR, h1, h2, hd, hSR⟩ := Hs tx ps nm v vn hs ww z hS
  refine k_callVR (rv := (some (.int r))) (Wc := gU T aF aR aD aP aH aW tx ps nm v vn hs ww) (W2 := gU T aF aR aD aP aH aW tx ps nm v vn hs ww) (Wn := gL T aF aR aD aP aH aW aO aM tx ps nm v vn hs ww out z) (As := []) (rest := []) F G (mX10_rights l D T aF aR aD aP aH aW tx ps nm v vn hs ww h1) (cwV 0 hAL (kgL_c kLl152 (kgL_c kLl153 (kgL_c kLl154 (kgL_c (kA kl80) (kgL_c (kA kl690) kgL_k))))) rfl rfl rfl (by decide +kernel) ⟨Nat.le_of_ble_eq_true rfl, Nat.le_of_ble_eq_true rfl⟩) (kg_recv G 2 0 (by decide) rfl (q := (RX10, TX10, 6)) rfl) (kCut_LU G) rfl hl.1 rfl (Nat.le_of_ble_eq_true rfl) dL_law_819 ⟨kroom1 hcs.1 (Nat.le_of_ble_eq_true rfl), kroom1 hcs.2 (Nat.le_of_ble_eq_true rfl)⟩ (cN := cells) (sN := slots) ⟨rfl, rfl⟩ (fun H locs G => ?_)
  obtain rfl := hd
  refine lv_aload_n F.1 F.2.1 dL_law_822 rfl (lv_at hl 2 rfl) ?_
  refine k_callVR (rv := _) (Wc := gM T aM z) (W2 := gM T aM zR) (Wn := gL T aF aR aD aP aH aW aO aM tx ps nm v vn hs ww out zR) (As := []) (rest := [.int r]) F G (mX11_rights l D T aM z h2) (cwV 0 hAL (kgL_c kLl155 (kgL_c kLl156 (kgL_c kLl157 (kgL_c (kA kl788) (kgL_c (kA kl997) kgL_k))))) rfl rfl rfl (by decide +kernel) ⟨Nat.le_of_ble_eq_true rfl, Nat.le_of_ble_eq_true rfl⟩) (kg_recv G 0 0 (by decide) rfl (q := (RX11, TX11, 35)) rfl) (kCut_LM G) rfl hl.1 rfl (Nat.le_of_ble_eq_true rfl) dL_law_823 ⟨kroom1 hcs.1 (Nat.le_of_ble_eq_true rfl), kroom1 hcs.2 (Nat.le_of_ble_eq_true rfl)⟩ (cN := cells + 0) (sN := slots + 0) ⟨rfl, rfl⟩ (fun H locs G => ?_)
  have hS := hSR
  refine lv_icmp_eq (tgt := 1909) F.1 F.2.1 dL_law_826 (by decide) (fun c => ?_) (fun c => absurd rfl c)
  exact kk tx ps nm v vn hs ww out zR _ _ _ hS G hl
set_option maxHeartbeats 8000000 in
set_option maxRecDepth 100000 in
theorem lc_load_ {Sim : (Nat → Nat → Int32) → (Nat → Nat → Int32) → (Nat → Int64) → (Nat → Nat → Int32) → (Nat → Int64) → (Nat → Nat → Int32) → (Nat → Nat → Nat → Int32) → (Nat → Nat → Int32) → Prop} (Hs : St_load_ Sim) (hst : l.stackTraces = false) (F : CallFix p m c code 9 s args kAll RL) (hAL : ∀ w ∈ kAL, w.before args s = true) (hr : meth.sig.returnType = ret) (hlk : meth.locks = false) (hX : va_X b L xs s s.heap) (hbl : b < s.heap.size) (hbA : ¬ A b) {x4 : Int32} (hi1 : vp_in (x4 + 1) L) (hi2 : vp_in (x4 + 2) L) (hi3 : vp_in (x4 + 3) L) (hi4 : vp_in (x4 + 4) L) (hi5 : vp_in (x4 + 5) L) (hcs : cells + 2 ≤ 601024 ∧ slots + 12 ≤ 7293034) (hS : Sim tx ps nm v vn hs ww z)
    (kk : ∀ (tx : Nat → Nat → Int32) (ps : Nat → Nat → Int32) (nm : Nat → Int64) (v : Nat → Nat → Int32) (vn : Nat → Int64) (hs : Nat → Nat → Int32) (ww : Nat → Nat → Nat → Int32) (out : Nat → Int64) (z : Nat → Nat → Int32) (H : Heap) (locs : List Loc) (ls : Array Slot), Sim tx ps nm v vn hs ww z → Rg D T A s (gL T aF aR aD aP aH aW aO aM tx ps nm v vn hs ww out z) H locs → lv_has ls 9 [(4, .int x4), (3, .ref aO), (2, .ref (aM 0)), (1, .ref (aF 0)), (0, .ref b)] → W p l e room_1 s m args below meth c H locs (cells + 1) (slots + 6) Q (F0 m 1909 ls []))
    (G : Rg D T A s (gL T aF aR aD aP aH aW aO aM tx ps nm v vn hs ww out z) H locs) (hl : lv_has ls 9 [(4, .int x4), (3, .ref aO), (2, .ref (aM 0)), (1, .ref (aF 0)), (0, .ref b)]) : W p l e room_1 s m args below meth c H locs cells slots Q (F0 m 831 ls []) := by
  refine lv_aload_n F.1 F.2.1 dL_law_831 rfl (lv_at hl 3 rfl) ?_
  refine lv_aload_n F.1 F.2.1 dL_law_832 rfl (lv_at hl 4 rfl) ?_
  refine lv_iload F.1 F.2.1 dL_law_833 (lv_at hl 0 rfl) ?_
  refine lv_iconst (v := 1) F.1 F.2.1 dL_law_835 (by decide) ?_
  refine lv_iadd F.1 F.2.1 dL_law_836 ?_
  refine va_sld F.1 F.2.1 hX hbl hbA G.2.2.2.1 hi1 dL_law_837 ?_
  refine lv_aload_n F.1 F.2.1 dL_law_838 rfl (lv_at hl 1 rfl) ?_
  obtain ⟨e, r, b', zR, h1, h2, hd, hSR⟩ := Hs tx ps nm v vn hs ww z hS (xs (x4 + 1).toNatClampNeg)
  rcases hd with ⟨rfl, hz, rfl⟩ | ⟨rfl, hz⟩
  · have hthr : zR 0 0 = 0 := hz
    refine kl_callSW (rv := some (.int 0)) (Wc := gO T aF aR aD aP aH aW aO tx ps nm v vn hs ww out) (W2 := gO T aF aR aD aP aH aW aO tx ps nm v vn hs ww (vp_updL out 0 r.toInt64)) (Wn := gL T aF aR aD aP aH aW aO aM tx ps nm v vn hs ww (vp_updL out 0 r.toInt64) z) (As := [.ref (aF 0), .int (xs (x4 + 1).toNatClampNeg), .ref aO]) (rest := []) F G (mL_load_ l hst D T aF aR aD aP aH aW aO tx ps nm v vn hs ww out (xs (x4 + 1).toNatClampNeg) (k := 0) (outR := (vp_updL out 0 r.toInt64)) h1 (Or.inl ⟨rfl, rfl, rfl⟩)) (vx_cwSW 3 hAL (kgL_c kLl158 (kgL_c kLl159 (kgL_c kLl84 (kgL_c kLl160 kgL_a)))) rfl rfl rfl (by decide +kernel) ⟨Nat.le_of_ble_eq_true rfl, Nat.le_of_ble_eq_true rfl⟩) (kCut_LO G) rfl hl.1 rfl (Nat.le_of_ble_eq_true rfl) dL_law_839 ⟨kroom1 hcs.1 (Nat.le_of_ble_eq_true rfl), kroom1 hcs.2 (Nat.le_of_ble_eq_true rfl)⟩ (cN := cells + 1) (sN := slots + 6) ⟨rfl, rfl⟩ (fun H locs G => ?_)
    have hcmp : lg_cmp ((vp_updL out 0 r.toInt64) (0 : Int32).toNatClampNeg) r.toInt64 = 0 := lg_same _ _
    refine lv_istore (lv' := [(5, .int 0), (4, .int x4), (3, .ref aO), (2, .ref (aM 0)), (1, .ref (aF 0)), (0, .ref b)]) F.1 F.2.1 dL_law_842 hl (by decide) rfl (fun ls hl => ?_)
    refine lv_aload_n F.1 F.2.1 dL_law_844 rfl (lv_at hl 3 rfl) ?_
    refine lv_aload_n F.1 F.2.1 dL_law_845 rfl (lv_at hl 5 rfl) ?_
    refine lv_iload F.1 F.2.1 dL_law_846 (lv_at hl 1 rfl) ?_
    refine lv_iconst (v := 1) F.1 F.2.1 dL_law_848 (by decide) ?_
    refine lv_iadd F.1 F.2.1 dL_law_849 ?_
    refine va_sld F.1 F.2.1 hX hbl hbA G.2.2.2.1 hi1 dL_law_850 ?_
    refine k_callVR (rv := _) (Wc := gM T aM z) (W2 := gM T aM zR) (Wn := gL T aF aR aD aP aH aW aO aM tx ps nm v vn hs ww (vp_updL out 0 r.toInt64) zR) (As := [.int (xs (x4 + 1).toNatClampNeg)]) (rest := []) F G (mX11_load_ l D T aM z (xs (x4 + 1).toNatClampNeg) h2) (cwV 1 hAL (kgL_c kLl161 (kgL_c kLl162 (kgL_c kLl163 (kgL_c (kA kl788) (kgL_c (kA kl998) kgL_k))))) rfl rfl rfl (by decide +kernel) ⟨Nat.le_of_ble_eq_true rfl, Nat.le_of_ble_eq_true rfl⟩) (kg_recv G 0 0 (by decide) rfl (q := (RX11, TX11, 35)) rfl) (kCut_LM G) rfl hl.1 rfl (Nat.le_of_ble_eq_true rfl) dL_law_851 ⟨kroom2 hcs.1 (Nat.le_of_ble_eq_true rfl), kroom2 hcs.2 (Nat.le_of_ble_eq_true rfl)⟩ (cN := cells + 1) (sN := slots + 6) ⟨rfl, rfl⟩ (fun H locs G => ?_)
    have hS := hSR
    refine lv_istore (lv' := [(6, .int r), (5, .int 0), (4, .int x4), (3, .ref aO), (2, .ref (aM 0)), (1, .ref (aF 0)), (0, .ref b)]) F.1 F.2.1 dL_law_854 hl (by decide) rfl (fun ls hl => ?_)
    refine lv_aload_n F.1 F.2.1 dL_law_856 rfl (lv_at hl 4 rfl) ?_
    refine k_callVR (rv := (some (.int (zR 0 0)))) (Wc := gM T aM zR) (W2 := gM T aM zR) (Wn := gL T aF aR aD aP aH aW aO aM tx ps nm v vn hs ww (vp_updL out 0 r.toInt64) zR) (As := []) (rest := []) F G (mX11_thrown l D T aM zR rfl) (cwV 0 hAL (kgL_c kLl89 (kgL_c kLl90 (kgL_c kLl91 (kgL_c (kA kl788) (kgL_c (kA kl803) kgL_k))))) rfl rfl rfl (by decide +kernel) ⟨Nat.le_of_ble_eq_true rfl, Nat.le_of_ble_eq_true rfl⟩) (kg_recv G 0 0 (by decide) rfl (q := (RX11, TX11, 35)) rfl) (kCut_LM G) rfl hl.1 rfl (Nat.le_of_ble_eq_true rfl) dL_law_857 ⟨kroom2 hcs.1 (Nat.le_of_ble_eq_true rfl), kroom2 hcs.2 (Nat.le_of_ble_eq_true rfl)⟩ (cN := cells + 1) (sN := slots + 6) ⟨rfl, rfl⟩ (fun H locs G => ?_)
    refine lv_iload F.1 F.2.1 dL_law_860 (lv_at hl 1 rfl) ?_
    refine lv_icmp_eq (tgt := 867) F.1 F.2.1 dL_law_862 (by decide) (fun c => ?_) (fun c => absurd hthr c)
    refine lv_iload F.1 F.2.1 dL_law_867 (lv_at hl 1 rfl) ?_
    refine lv_if_ne (tgt := 884) F.1 F.2.1 dL_law_869 (by decide) (fun c => absurd (by decide) c) (fun c => ?_)
    refine lv_aload_n F.1 F.2.1 dL_law_872 rfl (lv_at hl 3 rfl) ?_
    refine lv_iconst (v := 0) F.1 F.2.1 dL_law_873 (by decide) ?_
    refine kg_lald F G 1 0 (by decide) rfl (i := 0) (kin (by decide +kernel)) dL_law_874 ?_
    refine lv_iload F.1 F.2.1 dL_law_875 (lv_at hl 0 rfl) ?_
    refine lv_i2l (v := r.toInt64) F.1 F.2.1 dL_law_877 rfl ?_
    refine W.lcmp F.1 F.2.1 dL_law_878 ?_
    refine lv_if_eq (tgt := 884) F.1 F.2.1 dL_law_879 (by decide) (fun c => ?_) (fun c => absurd hcmp c)
    refine lv_goto (tgt := 1909) F.1 F.2.1 dL_law_884 (by decide) ?_
    exact kk tx ps nm v vn hs ww (vp_updL out 0 r.toInt64) zR _ _ _ hS G (lv_sub hl [2, 3, 4, 5, 6] rfl)
  · have hthr : zR 0 0 = 1 := hz
    refine kl_callSW (rv := some (.int 1)) (Wc := gO T aF aR aD aP aH aW aO tx ps nm v vn hs ww out) (W2 := gO T aF aR aD aP aH aW aO tx ps nm v vn hs ww out) (Wn := gL T aF aR aD aP aH aW aO aM tx ps nm v vn hs ww out z) (As := [.ref (aF 0), .int (xs (x4 + 1).toNatClampNeg), .ref aO]) (rest := []) F G (mL_load_ l hst D T aF aR aD aP aH aW aO tx ps nm v vn hs ww out (xs (x4 + 1).toNatClampNeg) (k := 1) (outR := out) h1 (Or.inr ⟨rfl, rfl, rfl⟩)) (vx_cwSW 3 hAL (kgL_c kLl158 (kgL_c kLl159 (kgL_c kLl84 (kgL_c kLl160 kgL_a)))) rfl rfl rfl (by decide +kernel) ⟨Nat.le_of_ble_eq_true rfl, Nat.le_of_ble_eq_true rfl⟩) (kCut_LO G) rfl hl.1 rfl (Nat.le_of_ble_eq_true rfl) dL_law_839 ⟨kroom1 hcs.1 (Nat.le_of_ble_eq_true rfl), kroom1 hcs.2 (Nat.le_of_ble_eq_true rfl)⟩ (cN := cells + 1) (sN := slots + 6) ⟨rfl, rfl⟩ (fun H locs G => ?_)
    refine lv_istore (lv' := [(5, .int 1), (4, .int x4), (3, .ref aO), (2, .ref (aM 0)), (1, .ref (aF 0)), (0, .ref b)]) F.1 F.2.1 dL_law_842 hl (by decide) rfl (fun ls hl => ?_)
    refine lv_aload_n F.1 F.2.1 dL_law_844 rfl (lv_at hl 3 rfl) ?_
    refine lv_aload_n F.1 F.2.1 dL_law_845 rfl (lv_at hl 5 rfl) ?_
    refine lv_iload F.1 F.2.1 dL_law_846 (lv_at hl 1 rfl) ?_
    refine lv_iconst (v := 1) F.1 F.2.1 dL_law_848 (by decide) ?_
    refine lv_iadd F.1 F.2.1 dL_law_849 ?_
    refine va_sld F.1 F.2.1 hX hbl hbA G.2.2.2.1 hi1 dL_law_850 ?_
    refine k_callVR (rv := _) (Wc := gM T aM z) (W2 := gM T aM zR) (Wn := gL T aF aR aD aP aH aW aO aM tx ps nm v vn hs ww out zR) (As := [.int (xs (x4 + 1).toNatClampNeg)]) (rest := []) F G (mX11_load_ l D T aM z (xs (x4 + 1).toNatClampNeg) h2) (cwV 1 hAL (kgL_c kLl161 (kgL_c kLl162 (kgL_c kLl163 (kgL_c (kA kl788) (kgL_c (kA kl998) kgL_k))))) rfl rfl rfl (by decide +kernel) ⟨Nat.le_of_ble_eq_true rfl, Nat.le_of_ble_eq_true rfl⟩) (kg_recv G 0 0 (by decide) rfl (q := (RX11, TX11, 35)) rfl) (kCut_LM G) rfl hl.1 rfl (Nat.le_of_ble_eq_true rfl) dL_law_851 ⟨kroom2 hcs.1 (Nat.le_of_ble_eq_true rfl), kroom2 hcs.2 (Nat.le_of_ble_eq_true rfl)⟩ (cN := cells + 1) (sN := slots + 6) ⟨rfl, rfl⟩ (fun H locs G => ?_)
    have hS := hSR
    refine lv_istore (lv' := [(6, .int b'), (5, .int 1), (4, .int x4), (3, .ref aO), (2, .ref (aM 0)), (1, .ref (aF 0)), (0, .ref b)]) F.1 F.2.1 dL_law_854 hl (by decide) rfl (fun ls hl => ?_)
    refine lv_aload_n F.1 F.2.1 dL_law_856 rfl (lv_at hl 4 rfl) ?_
    refine k_callVR (rv := (some (.int (zR 0 0)))) (Wc := gM T aM zR) (W2 := gM T aM zR) (Wn := gL T aF aR aD aP aH aW aO aM tx ps nm v vn hs ww out zR) (As := []) (rest := []) F G (mX11_thrown l D T aM zR rfl) (cwV 0 hAL (kgL_c kLl89 (kgL_c kLl90 (kgL_c kLl91 (kgL_c (kA kl788) (kgL_c (kA kl803) kgL_k))))) rfl rfl rfl (by decide +kernel) ⟨Nat.le_of_ble_eq_true rfl, Nat.le_of_ble_eq_true rfl⟩) (kg_recv G 0 0 (by decide) rfl (q := (RX11, TX11, 35)) rfl) (kCut_LM G) rfl hl.1 rfl (Nat.le_of_ble_eq_true rfl) dL_law_857 ⟨kroom2 hcs.1 (Nat.le_of_ble_eq_true rfl), kroom2 hcs.2 (Nat.le_of_ble_eq_true rfl)⟩ (cN := cells + 1) (sN := slots + 6) ⟨rfl, rfl⟩ (fun H locs G => ?_)
    refine lv_iload F.1 F.2.1 dL_law_860 (lv_at hl 1 rfl) ?_
    refine lv_icmp_eq (tgt := 867) F.1 F.2.1 dL_law_862 (by decide) (fun c => ?_) (fun c => absurd hthr c)
    refine lv_iload F.1 F.2.1 dL_law_867 (lv_at hl 1 rfl) ?_
    refine lv_if_ne (tgt := 884) F.1 F.2.1 dL_law_869 (by decide) (fun c => ?_) (fun c => absurd c (by decide))
    refine lv_goto (tgt := 1909) F.1 F.2.1 dL_law_884 (by decide) ?_
    exact kk tx ps nm v vn hs ww out zR _ _ _ hS G (lv_sub hl [2, 3, 4, 5, 6] rfl)
set_option maxHeartbeats 8000000 in
set_option maxRecDepth 100000 in
theorem lc_strain {Sim : (Nat → Nat → Int32) → (Nat → Nat → Int32) → (Nat → Int64) → (Nat → Nat → Int32) → (Nat → Int64) → (Nat → Nat → Int32) → (Nat → Nat → Nat → Int32) → (Nat → Nat → Int32) → Prop} (Hs : St_strain Sim) (hst : l.stackTraces = false) (F : CallFix p m c code 9 s args kAll RL) (hAL : ∀ w ∈ kAL, w.before args s = true) (hr : meth.sig.returnType = ret) (hlk : meth.locks = false) (hX : va_X b L xs s s.heap) (hbl : b < s.heap.size) (hbA : ¬ A b) {x4 : Int32} (hi1 : vp_in (x4 + 1) L) (hi2 : vp_in (x4 + 2) L) (hi3 : vp_in (x4 + 3) L) (hi4 : vp_in (x4 + 4) L) (hi5 : vp_in (x4 + 5) L) (hcs : cells + 2 ≤ 601024 ∧ slots + 12 ≤ 7293034) (hS : Sim tx ps nm v vn hs ww z)
    (kk : ∀ (tx : Nat → Nat → Int32) (ps : Nat → Nat → Int32) (nm : Nat → Int64) (v : Nat → Nat → Int32) (vn : Nat → Int64) (hs : Nat → Nat → Int32) (ww : Nat → Nat → Nat → Int32) (out : Nat → Int64) (z : Nat → Nat → Int32) (H : Heap) (locs : List Loc) (ls : Array Slot), Sim tx ps nm v vn hs ww z → Rg D T A s (gL T aF aR aD aP aH aW aO aM tx ps nm v vn hs ww out z) H locs → lv_has ls 9 [(4, .int x4), (3, .ref aO), (2, .ref (aM 0)), (1, .ref (aF 0)), (0, .ref b)] → W p l e room_1 s m args below meth c H locs (cells + 0) (slots + 0) Q (F0 m 1909 ls []))
    (G : Rg D T A s (gL T aF aR aD aP aH aW aO aM tx ps nm v vn hs ww out z) H locs) (hl : lv_has ls 9 [(4, .int x4), (3, .ref aO), (2, .ref (aM 0)), (1, .ref (aF 0)), (0, .ref b)]) : W p l e room_1 s m args below meth c H locs cells slots Q (F0 m 887 ls []) := by
  refine lv_aload_n F.1 F.2.1 dL_law_887 rfl (lv_at hl 3 rfl) ?_
  obtain ⟨r, b', zR, h1, h2, hd, hSR⟩ := Hs tx ps nm v vn hs ww z hS
  refine k_callVR (rv := (some (.double r))) (Wc := gU T aF aR aD aP aH aW tx ps nm v vn hs ww) (W2 := gU T aF aR aD aP aH aW tx ps nm v vn hs ww) (Wn := gL T aF aR aD aP aH aW aO aM tx ps nm v vn hs ww out z) (As := []) (rest := []) F G (mX10_strain l D T aF aR aD aP aH aW tx ps nm v vn hs ww h1) (cwV 0 hAL (kgL_c kLl164 (kgL_c kLl165 (kgL_c kLl166 (kgL_c (kA kl80) (kgL_c (kA kl695) kgL_k))))) rfl rfl rfl (by decide +kernel) ⟨Nat.le_of_ble_eq_true rfl, Nat.le_of_ble_eq_true rfl⟩) (kg_recv G 2 0 (by decide) rfl (q := (RX10, TX10, 6)) rfl) (kCut_LU G) rfl hl.1 rfl (Nat.le_of_ble_eq_true rfl) dL_law_888 ⟨kroom1 hcs.1 (Nat.le_of_ble_eq_true rfl), kroom1 hcs.2 (Nat.le_of_ble_eq_true rfl)⟩ (cN := cells) (sN := slots) ⟨rfl, rfl⟩ (fun H locs G => ?_)
  obtain ⟨rfl, hdc⟩ := hd
  refine lv_dstore (lv' := [(5, .double r), (4, .int x4), (3, .ref aO), (2, .ref (aM 0)), (1, .ref (aF 0)), (0, .ref b)]) F.1 F.2.1 dL_law_891 hl (by decide) rfl (fun ls hl => ?_)
  refine lv_aload_n F.1 F.2.1 dL_law_893 rfl (lv_at hl 3 rfl) ?_
  refine k_callVR (rv := _) (Wc := gM T aM z) (W2 := gM T aM zR) (Wn := gL T aF aR aD aP aH aW aO aM tx ps nm v vn hs ww out zR) (As := []) (rest := []) F G (mX11_strain l D T aM z h2) (cwV 0 hAL (kgL_c kLl167 (kgL_c kLl168 (kgL_c kLl169 (kgL_c (kA kl788) (kgL_c (kA kl1000) kgL_k))))) rfl rfl rfl (by decide +kernel) ⟨Nat.le_of_ble_eq_true rfl, Nat.le_of_ble_eq_true rfl⟩) (kg_recv G 0 0 (by decide) rfl (q := (RX11, TX11, 35)) rfl) (kCut_LM G) rfl hl.1 rfl (Nat.le_of_ble_eq_true rfl) dL_law_894 ⟨kroom1 hcs.1 (Nat.le_of_ble_eq_true rfl), kroom1 hcs.2 (Nat.le_of_ble_eq_true rfl)⟩ (cN := cells + 0) (sN := slots + 0) ⟨rfl, rfl⟩ (fun H locs G => ?_)
  have hS := hSR
  refine lv_dstore (lv' := [(7, .double r), (5, .double r), (4, .int x4), (3, .ref aO), (2, .ref (aM 0)), (1, .ref (aF 0)), (0, .ref b)]) F.1 F.2.1 dL_law_897 hl (by decide) rfl (fun ls hl => ?_)
  refine lv_dload F.1 F.2.1 dL_law_899 (lv_at hl 1 rfl) ?_
  refine lv_dload F.1 F.2.1 dL_law_901 (lv_at hl 0 rfl) ?_
  refine lv_dcmp F.1 F.2.1 dL_law_903 ?_
  refine lv_if_eq (tgt := 925) F.1 F.2.1 dL_law_904 (by decide) (fun c => ?_) (fun c => absurd (by rw [hdc]; rfl) c)
  refine lv_goto (tgt := 1909) F.1 F.2.1 dL_law_925 (by decide) ?_
  exact kk tx ps nm v vn hs ww out zR _ _ _ hS G (lv_sub hl [2, 3, 4, 5, 6] rfl)
set_option maxHeartbeats 8000000 in
set_option maxRecDepth 100000 in
theorem lc_message {Sim : (Nat → Nat → Int32) → (Nat → Nat → Int32) → (Nat → Int64) → (Nat → Nat → Int32) → (Nat → Int64) → (Nat → Nat → Int32) → (Nat → Nat → Nat → Int32) → (Nat → Nat → Int32) → Prop} (Hs : St_message Sim) (hst : l.stackTraces = false) (F : CallFix p m c code 9 s args kAll RL) (hAL : ∀ w ∈ kAL, w.before args s = true) (hr : meth.sig.returnType = ret) (hlk : meth.locks = false) (hX : va_X b L xs s s.heap) (hbl : b < s.heap.size) (hbA : ¬ A b) {x4 : Int32} (hi1 : vp_in (x4 + 1) L) (hi2 : vp_in (x4 + 2) L) (hi3 : vp_in (x4 + 3) L) (hi4 : vp_in (x4 + 4) L) (hi5 : vp_in (x4 + 5) L) (hcs : cells + 2 ≤ 601024 ∧ slots + 12 ≤ 7293034) (hS : Sim tx ps nm v vn hs ww z)
    (kk : ∀ (tx : Nat → Nat → Int32) (ps : Nat → Nat → Int32) (nm : Nat → Int64) (v : Nat → Nat → Int32) (vn : Nat → Int64) (hs : Nat → Nat → Int32) (ww : Nat → Nat → Nat → Int32) (out : Nat → Int64) (z : Nat → Nat → Int32) (H : Heap) (locs : List Loc) (ls : Array Slot), Sim tx ps nm v vn hs ww z → Rg D T A s (gL T aF aR aD aP aH aW aO aM tx ps nm v vn hs ww out z) H locs → lv_has ls 9 [(4, .int x4), (3, .ref aO), (2, .ref (aM 0)), (1, .ref (aF 0)), (0, .ref b)] → W p l e room_1 s m args below meth c H locs (cells + 1) (slots + 6) Q (F0 m 1909 ls []))
    (G : Rg D T A s (gL T aF aR aD aP aH aW aO aM tx ps nm v vn hs ww out z) H locs) (hl : lv_has ls 9 [(4, .int x4), (3, .ref aO), (2, .ref (aM 0)), (1, .ref (aF 0)), (0, .ref b)]) : W p l e room_1 s m args below meth c H locs cells slots Q (F0 m 928 ls []) := by
  refine lv_aload_n F.1 F.2.1 dL_law_928 rfl (lv_at hl 3 rfl) ?_
  refine lv_aload_n F.1 F.2.1 dL_law_929 rfl (lv_at hl 4 rfl) ?_
  refine lv_iload F.1 F.2.1 dL_law_930 (lv_at hl 0 rfl) ?_
  refine lv_iconst (v := 1) F.1 F.2.1 dL_law_932 (by decide) ?_
  refine lv_iadd F.1 F.2.1 dL_law_933 ?_
  refine va_sld F.1 F.2.1 hX hbl hbA G.2.2.2.1 hi1 dL_law_934 ?_
  refine lv_aload_n F.1 F.2.1 dL_law_935 rfl (lv_at hl 4 rfl) ?_
  refine lv_iload F.1 F.2.1 dL_law_936 (lv_at hl 0 rfl) ?_
  refine lv_iconst (v := 2) F.1 F.2.1 dL_law_938 (by decide) ?_
  refine lv_iadd F.1 F.2.1 dL_law_939 ?_
  refine va_sld F.1 F.2.1 hX hbl hbA G.2.2.2.1 hi2 dL_law_940 ?_
  refine lv_aload_n F.1 F.2.1 dL_law_941 rfl (lv_at hl 1 rfl) ?_
  obtain ⟨e, r, b', zR, h1, h2, hd, hSR⟩ := Hs tx ps nm v vn hs ww z hS (xs (x4 + 1).toNatClampNeg) (xs (x4 + 2).toNatClampNeg)
  rcases hd with ⟨rfl, hz, rfl⟩ | ⟨rfl, hz⟩ | ⟨rfl, hz⟩
  · have hthr : zR 0 0 = 0 := hz
    refine kl_callSW (rv := some (.int 0)) (Wc := gO T aF aR aD aP aH aW aO tx ps nm v vn hs ww out) (W2 := gO T aF aR aD aP aH aW aO tx ps nm v vn hs ww (vp_updL out 0 r.toInt64)) (Wn := gL T aF aR aD aP aH aW aO aM tx ps nm v vn hs ww (vp_updL out 0 r.toInt64) z) (As := [.ref (aF 0), .int (xs (x4 + 1).toNatClampNeg), .int (xs (x4 + 2).toNatClampNeg), .ref aO]) (rest := []) F G (mL_message l hst D T aF aR aD aP aH aW aO tx ps nm v vn hs ww out (xs (x4 + 1).toNatClampNeg) (xs (x4 + 2).toNatClampNeg) (k := 0) (outR := (vp_updL out 0 r.toInt64)) h1 (Or.inl ⟨rfl, rfl, rfl⟩)) (vx_cwSW 4 hAL (kgL_c kLl170 (kgL_c kLl171 (kgL_c kLl84 (kgL_c kLl172 kgL_a)))) rfl rfl rfl (by decide +kernel) ⟨Nat.le_of_ble_eq_true rfl, Nat.le_of_ble_eq_true rfl⟩) (kCut_LO G) rfl hl.1 rfl (Nat.le_of_ble_eq_true rfl) dL_law_942 ⟨kroom1 hcs.1 (Nat.le_of_ble_eq_true rfl), kroom1 hcs.2 (Nat.le_of_ble_eq_true rfl)⟩ (cN := cells + 1) (sN := slots + 6) ⟨rfl, rfl⟩ (fun H locs G => ?_)
    have hcmp : lg_cmp ((vp_updL out 0 r.toInt64) (0 : Int32).toNatClampNeg) r.toInt64 = 0 := lg_same _ _
    refine lv_istore (lv' := [(5, .int 0), (4, .int x4), (3, .ref aO), (2, .ref (aM 0)), (1, .ref (aF 0)), (0, .ref b)]) F.1 F.2.1 dL_law_945 hl (by decide) rfl (fun ls hl => ?_)
    refine lv_aload_n F.1 F.2.1 dL_law_947 rfl (lv_at hl 3 rfl) ?_
    refine lv_aload_n F.1 F.2.1 dL_law_948 rfl (lv_at hl 5 rfl) ?_
    refine lv_iload F.1 F.2.1 dL_law_949 (lv_at hl 1 rfl) ?_
    refine lv_iconst (v := 1) F.1 F.2.1 dL_law_951 (by decide) ?_
    refine lv_iadd F.1 F.2.1 dL_law_952 ?_
    refine va_sld F.1 F.2.1 hX hbl hbA G.2.2.2.1 hi1 dL_law_953 ?_
    refine lv_aload_n F.1 F.2.1 dL_law_954 rfl (lv_at hl 5 rfl) ?_
    refine lv_iload F.1 F.2.1 dL_law_955 (lv_at hl 1 rfl) ?_
    refine lv_iconst (v := 2) F.1 F.2.1 dL_law_957 (by decide) ?_
    refine lv_iadd F.1 F.2.1 dL_law_958 ?_
    refine va_sld F.1 F.2.1 hX hbl hbA G.2.2.2.1 hi2 dL_law_959 ?_
    refine k_callVR (rv := _) (Wc := gM T aM z) (W2 := gM T aM zR) (Wn := gL T aF aR aD aP aH aW aO aM tx ps nm v vn hs ww (vp_updL out 0 r.toInt64) zR) (As := [.int (xs (x4 + 1).toNatClampNeg), .int (xs (x4 + 2).toNatClampNeg)]) (rest := []) F G (mX11_message l D T aM z (xs (x4 + 1).toNatClampNeg) (xs (x4 + 2).toNatClampNeg) h2) (cwV 2 hAL (kgL_c kLl173 (kgL_c kLl174 (kgL_c kLl175 (kgL_c (kA kl788) (kgL_c (kA kl1001) kgL_k))))) rfl rfl rfl (by decide +kernel) ⟨Nat.le_of_ble_eq_true rfl, Nat.le_of_ble_eq_true rfl⟩) (kg_recv G 0 0 (by decide) rfl (q := (RX11, TX11, 35)) rfl) (kCut_LM G) rfl hl.1 rfl (Nat.le_of_ble_eq_true rfl) dL_law_960 ⟨kroom2 hcs.1 (Nat.le_of_ble_eq_true rfl), kroom2 hcs.2 (Nat.le_of_ble_eq_true rfl)⟩ (cN := cells + 1) (sN := slots + 6) ⟨rfl, rfl⟩ (fun H locs G => ?_)
    have hS := hSR
    refine lv_istore (lv' := [(6, .int r), (5, .int 0), (4, .int x4), (3, .ref aO), (2, .ref (aM 0)), (1, .ref (aF 0)), (0, .ref b)]) F.1 F.2.1 dL_law_963 hl (by decide) rfl (fun ls hl => ?_)
    refine lv_aload_n F.1 F.2.1 dL_law_965 rfl (lv_at hl 4 rfl) ?_
    refine k_callVR (rv := (some (.int (zR 0 0)))) (Wc := gM T aM zR) (W2 := gM T aM zR) (Wn := gL T aF aR aD aP aH aW aO aM tx ps nm v vn hs ww (vp_updL out 0 r.toInt64) zR) (As := []) (rest := []) F G (mX11_thrown l D T aM zR rfl) (cwV 0 hAL (kgL_c kLl89 (kgL_c kLl90 (kgL_c kLl91 (kgL_c (kA kl788) (kgL_c (kA kl803) kgL_k))))) rfl rfl rfl (by decide +kernel) ⟨Nat.le_of_ble_eq_true rfl, Nat.le_of_ble_eq_true rfl⟩) (kg_recv G 0 0 (by decide) rfl (q := (RX11, TX11, 35)) rfl) (kCut_LM G) rfl hl.1 rfl (Nat.le_of_ble_eq_true rfl) dL_law_966 ⟨kroom2 hcs.1 (Nat.le_of_ble_eq_true rfl), kroom2 hcs.2 (Nat.le_of_ble_eq_true rfl)⟩ (cN := cells + 1) (sN := slots + 6) ⟨rfl, rfl⟩ (fun H locs G => ?_)
    refine lv_iload F.1 F.2.1 dL_law_969 (lv_at hl 1 rfl) ?_
    refine lv_icmp_eq (tgt := 976) F.1 F.2.1 dL_law_971 (by decide) (fun c => ?_) (fun c => absurd hthr c)
    refine lv_iload F.1 F.2.1 dL_law_976 (lv_at hl 1 rfl) ?_
    refine lv_if_ne (tgt := 993) F.1 F.2.1 dL_law_978 (by decide) (fun c => absurd (by decide) c) (fun c => ?_)
    refine lv_aload_n F.1 F.2.1 dL_law_981 rfl (lv_at hl 3 rfl) ?_
    refine lv_iconst (v := 0) F.1 F.2.1 dL_law_982 (by decide) ?_
    refine kg_lald F G 1 0 (by decide) rfl (i := 0) (kin (by decide +kernel)) dL_law_983 ?_
    refine lv_iload F.1 F.2.1 dL_law_984 (lv_at hl 0 rfl) ?_
    refine lv_i2l (v := r.toInt64) F.1 F.2.1 dL_law_986 rfl ?_
    refine W.lcmp F.1 F.2.1 dL_law_987 ?_
    refine lv_if_eq (tgt := 993) F.1 F.2.1 dL_law_988 (by decide) (fun c => ?_) (fun c => absurd hcmp c)
    refine lv_goto (tgt := 1909) F.1 F.2.1 dL_law_993 (by decide) ?_
    exact kk tx ps nm v vn hs ww (vp_updL out 0 r.toInt64) zR _ _ _ hS G (lv_sub hl [2, 3, 4, 5, 6] rfl)
  · have hthr : zR 0 0 = 1 := hz
    refine kl_callSW (rv := some (.int 1)) (Wc := gO T aF aR aD aP aH aW aO tx ps nm v vn hs ww out) (W2 := gO T aF aR aD aP aH aW aO tx ps nm v vn hs ww out) (Wn := gL T aF aR aD aP aH aW aO aM tx ps nm v vn hs ww out z) (As := [.ref (aF 0), .int (xs (x4 + 1).toNatClampNeg), .int (xs (x4 + 2).toNatClampNeg), .ref aO]) (rest := []) F G (mL_message l hst D T aF aR aD aP aH aW aO tx ps nm v vn hs ww out (xs (x4 + 1).toNatClampNeg) (xs (x4 + 2).toNatClampNeg) (k := 1) (outR := out) h1 (Or.inr (Or.inl ⟨rfl, rfl, rfl⟩))) (vx_cwSW 4 hAL (kgL_c kLl170 (kgL_c kLl171 (kgL_c kLl84 (kgL_c kLl172 kgL_a)))) rfl rfl rfl (by decide +kernel) ⟨Nat.le_of_ble_eq_true rfl, Nat.le_of_ble_eq_true rfl⟩) (kCut_LO G) rfl hl.1 rfl (Nat.le_of_ble_eq_true rfl) dL_law_942 ⟨kroom1 hcs.1 (Nat.le_of_ble_eq_true rfl), kroom1 hcs.2 (Nat.le_of_ble_eq_true rfl)⟩ (cN := cells + 1) (sN := slots + 6) ⟨rfl, rfl⟩ (fun H locs G => ?_)
    refine lv_istore (lv' := [(5, .int 1), (4, .int x4), (3, .ref aO), (2, .ref (aM 0)), (1, .ref (aF 0)), (0, .ref b)]) F.1 F.2.1 dL_law_945 hl (by decide) rfl (fun ls hl => ?_)
    refine lv_aload_n F.1 F.2.1 dL_law_947 rfl (lv_at hl 3 rfl) ?_
    refine lv_aload_n F.1 F.2.1 dL_law_948 rfl (lv_at hl 5 rfl) ?_
    refine lv_iload F.1 F.2.1 dL_law_949 (lv_at hl 1 rfl) ?_
    refine lv_iconst (v := 1) F.1 F.2.1 dL_law_951 (by decide) ?_
    refine lv_iadd F.1 F.2.1 dL_law_952 ?_
    refine va_sld F.1 F.2.1 hX hbl hbA G.2.2.2.1 hi1 dL_law_953 ?_
    refine lv_aload_n F.1 F.2.1 dL_law_954 rfl (lv_at hl 5 rfl) ?_
    refine lv_iload F.1 F.2.1 dL_law_955 (lv_at hl 1 rfl) ?_
    refine lv_iconst (v := 2) F.1 F.2.1 dL_law_957 (by decide) ?_
    refine lv_iadd F.1 F.2.1 dL_law_958 ?_
    refine va_sld F.1 F.2.1 hX hbl hbA G.2.2.2.1 hi2 dL_law_959 ?_
    refine k_callVR (rv := _) (Wc := gM T aM z) (W2 := gM T aM zR) (Wn := gL T aF aR aD aP aH aW aO aM tx ps nm v vn hs ww out zR) (As := [.int (xs (x4 + 1).toNatClampNeg), .int (xs (x4 + 2).toNatClampNeg)]) (rest := []) F G (mX11_message l D T aM z (xs (x4 + 1).toNatClampNeg) (xs (x4 + 2).toNatClampNeg) h2) (cwV 2 hAL (kgL_c kLl173 (kgL_c kLl174 (kgL_c kLl175 (kgL_c (kA kl788) (kgL_c (kA kl1001) kgL_k))))) rfl rfl rfl (by decide +kernel) ⟨Nat.le_of_ble_eq_true rfl, Nat.le_of_ble_eq_true rfl⟩) (kg_recv G 0 0 (by decide) rfl (q := (RX11, TX11, 35)) rfl) (kCut_LM G) rfl hl.1 rfl (Nat.le_of_ble_eq_true rfl) dL_law_960 ⟨kroom2 hcs.1 (Nat.le_of_ble_eq_true rfl), kroom2 hcs.2 (Nat.le_of_ble_eq_true rfl)⟩ (cN := cells + 1) (sN := slots + 6) ⟨rfl, rfl⟩ (fun H locs G => ?_)
    have hS := hSR
    refine lv_istore (lv' := [(6, .int b'), (5, .int 1), (4, .int x4), (3, .ref aO), (2, .ref (aM 0)), (1, .ref (aF 0)), (0, .ref b)]) F.1 F.2.1 dL_law_963 hl (by decide) rfl (fun ls hl => ?_)
    refine lv_aload_n F.1 F.2.1 dL_law_965 rfl (lv_at hl 4 rfl) ?_
    refine k_callVR (rv := (some (.int (zR 0 0)))) (Wc := gM T aM zR) (W2 := gM T aM zR) (Wn := gL T aF aR aD aP aH aW aO aM tx ps nm v vn hs ww out zR) (As := []) (rest := []) F G (mX11_thrown l D T aM zR rfl) (cwV 0 hAL (kgL_c kLl89 (kgL_c kLl90 (kgL_c kLl91 (kgL_c (kA kl788) (kgL_c (kA kl803) kgL_k))))) rfl rfl rfl (by decide +kernel) ⟨Nat.le_of_ble_eq_true rfl, Nat.le_of_ble_eq_true rfl⟩) (kg_recv G 0 0 (by decide) rfl (q := (RX11, TX11, 35)) rfl) (kCut_LM G) rfl hl.1 rfl (Nat.le_of_ble_eq_true rfl) dL_law_966 ⟨kroom2 hcs.1 (Nat.le_of_ble_eq_true rfl), kroom2 hcs.2 (Nat.le_of_ble_eq_true rfl)⟩ (cN := cells + 1) (sN := slots + 6) ⟨rfl, rfl⟩ (fun H locs G => ?_)
    refine lv_iload F.1 F.2.1 dL_law_969 (lv_at hl 1 rfl) ?_
    refine lv_icmp_eq (tgt := 976) F.1 F.2.1 dL_law_971 (by decide) (fun c => ?_) (fun c => absurd hthr c)
    refine lv_iload F.1 F.2.1 dL_law_976 (lv_at hl 1 rfl) ?_
    refine lv_if_ne (tgt := 993) F.1 F.2.1 dL_law_978 (by decide) (fun c => ?_) (fun c => absurd c (by decide))
    refine lv_goto (tgt := 1909) F.1 F.2.1 dL_law_993 (by decide) ?_
    exact kk tx ps nm v vn hs ww out zR _ _ _ hS G (lv_sub hl [2, 3, 4, 5, 6] rfl)
  · have hthr : zR 0 0 = 2 := hz
    refine kl_callSW (rv := some (.int 2)) (Wc := gO T aF aR aD aP aH aW aO tx ps nm v vn hs ww out) (W2 := gO T aF aR aD aP aH aW aO tx ps nm v vn hs ww out) (Wn := gL T aF aR aD aP aH aW aO aM tx ps nm v vn hs ww out z) (As := [.ref (aF 0), .int (xs (x4 + 1).toNatClampNeg), .int (xs (x4 + 2).toNatClampNeg), .ref aO]) (rest := []) F G (mL_message l hst D T aF aR aD aP aH aW aO tx ps nm v vn hs ww out (xs (x4 + 1).toNatClampNeg) (xs (x4 + 2).toNatClampNeg) (k := 2) (outR := out) h1 (Or.inr (Or.inr ⟨rfl, rfl, rfl⟩))) (vx_cwSW 4 hAL (kgL_c kLl170 (kgL_c kLl171 (kgL_c kLl84 (kgL_c kLl172 kgL_a)))) rfl rfl rfl (by decide +kernel) ⟨Nat.le_of_ble_eq_true rfl, Nat.le_of_ble_eq_true rfl⟩) (kCut_LO G) rfl hl.1 rfl (Nat.le_of_ble_eq_true rfl) dL_law_942 ⟨kroom1 hcs.1 (Nat.le_of_ble_eq_true rfl), kroom1 hcs.2 (Nat.le_of_ble_eq_true rfl)⟩ (cN := cells + 1) (sN := slots + 6) ⟨rfl, rfl⟩ (fun H locs G => ?_)
    refine lv_istore (lv' := [(5, .int 2), (4, .int x4), (3, .ref aO), (2, .ref (aM 0)), (1, .ref (aF 0)), (0, .ref b)]) F.1 F.2.1 dL_law_945 hl (by decide) rfl (fun ls hl => ?_)
    refine lv_aload_n F.1 F.2.1 dL_law_947 rfl (lv_at hl 3 rfl) ?_
    refine lv_aload_n F.1 F.2.1 dL_law_948 rfl (lv_at hl 5 rfl) ?_
    refine lv_iload F.1 F.2.1 dL_law_949 (lv_at hl 1 rfl) ?_
    refine lv_iconst (v := 1) F.1 F.2.1 dL_law_951 (by decide) ?_
    refine lv_iadd F.1 F.2.1 dL_law_952 ?_
    refine va_sld F.1 F.2.1 hX hbl hbA G.2.2.2.1 hi1 dL_law_953 ?_
    refine lv_aload_n F.1 F.2.1 dL_law_954 rfl (lv_at hl 5 rfl) ?_
    refine lv_iload F.1 F.2.1 dL_law_955 (lv_at hl 1 rfl) ?_
    refine lv_iconst (v := 2) F.1 F.2.1 dL_law_957 (by decide) ?_
    refine lv_iadd F.1 F.2.1 dL_law_958 ?_
    refine va_sld F.1 F.2.1 hX hbl hbA G.2.2.2.1 hi2 dL_law_959 ?_
    refine k_callVR (rv := _) (Wc := gM T aM z) (W2 := gM T aM zR) (Wn := gL T aF aR aD aP aH aW aO aM tx ps nm v vn hs ww out zR) (As := [.int (xs (x4 + 1).toNatClampNeg), .int (xs (x4 + 2).toNatClampNeg)]) (rest := []) F G (mX11_message l D T aM z (xs (x4 + 1).toNatClampNeg) (xs (x4 + 2).toNatClampNeg) h2) (cwV 2 hAL (kgL_c kLl173 (kgL_c kLl174 (kgL_c kLl175 (kgL_c (kA kl788) (kgL_c (kA kl1001) kgL_k))))) rfl rfl rfl (by decide +kernel) ⟨Nat.le_of_ble_eq_true rfl, Nat.le_of_ble_eq_true rfl⟩) (kg_recv G 0 0 (by decide) rfl (q := (RX11, TX11, 35)) rfl) (kCut_LM G) rfl hl.1 rfl (Nat.le_of_ble_eq_true rfl) dL_law_960 ⟨kroom2 hcs.1 (Nat.le_of_ble_eq_true rfl), kroom2 hcs.2 (Nat.le_of_ble_eq_true rfl)⟩ (cN := cells + 1) (sN := slots + 6) ⟨rfl, rfl⟩ (fun H locs G => ?_)
    have hS := hSR
    refine lv_istore (lv' := [(6, .int b'), (5, .int 2), (4, .int x4), (3, .ref aO), (2, .ref (aM 0)), (1, .ref (aF 0)), (0, .ref b)]) F.1 F.2.1 dL_law_963 hl (by decide) rfl (fun ls hl => ?_)
    refine lv_aload_n F.1 F.2.1 dL_law_965 rfl (lv_at hl 4 rfl) ?_
    refine k_callVR (rv := (some (.int (zR 0 0)))) (Wc := gM T aM zR) (W2 := gM T aM zR) (Wn := gL T aF aR aD aP aH aW aO aM tx ps nm v vn hs ww out zR) (As := []) (rest := []) F G (mX11_thrown l D T aM zR rfl) (cwV 0 hAL (kgL_c kLl89 (kgL_c kLl90 (kgL_c kLl91 (kgL_c (kA kl788) (kgL_c (kA kl803) kgL_k))))) rfl rfl rfl (by decide +kernel) ⟨Nat.le_of_ble_eq_true rfl, Nat.le_of_ble_eq_true rfl⟩) (kg_recv G 0 0 (by decide) rfl (q := (RX11, TX11, 35)) rfl) (kCut_LM G) rfl hl.1 rfl (Nat.le_of_ble_eq_true rfl) dL_law_966 ⟨kroom2 hcs.1 (Nat.le_of_ble_eq_true rfl), kroom2 hcs.2 (Nat.le_of_ble_eq_true rfl)⟩ (cN := cells + 1) (sN := slots + 6) ⟨rfl, rfl⟩ (fun H locs G => ?_)
    refine lv_iload F.1 F.2.1 dL_law_969 (lv_at hl 1 rfl) ?_
    refine lv_icmp_eq (tgt := 976) F.1 F.2.1 dL_law_971 (by decide) (fun c => ?_) (fun c => absurd hthr c)
    refine lv_iload F.1 F.2.1 dL_law_976 (lv_at hl 1 rfl) ?_
    refine lv_if_ne (tgt := 993) F.1 F.2.1 dL_law_978 (by decide) (fun c => ?_) (fun c => absurd c (by decide))
    refine lv_goto (tgt := 1909) F.1 F.2.1 dL_law_993 (by decide) ?_
    exact kk tx ps nm v vn hs ww out zR _ _ _ hS G (lv_sub hl [2, 3, 4, 5, 6] rfl)
set_option maxHeartbeats 8000000 in
set_option maxRecDepth 100000 in
theorem lc_traffic {Sim : (Nat → Nat → Int32) → (Nat → Nat → Int32) → (Nat → Int64) → (Nat → Nat → Int32) → (Nat → Int64) → (Nat → Nat → Int32) → (Nat → Nat → Nat → Int32) → (Nat → Nat → Int32) → Prop} (Hs : St_traffic Sim) (hst : l.stackTraces = false) (F : CallFix p m c code 9 s args kAll RL) (hAL : ∀ w ∈ kAL, w.before args s = true) (hr : meth.sig.returnType = ret) (hlk : meth.locks = false) (hX : va_X b L xs s s.heap) (hbl : b < s.heap.size) (hbA : ¬ A b) {x4 : Int32} (hi1 : vp_in (x4 + 1) L) (hi2 : vp_in (x4 + 2) L) (hi3 : vp_in (x4 + 3) L) (hi4 : vp_in (x4 + 4) L) (hi5 : vp_in (x4 + 5) L) (hcs : cells + 2 ≤ 601024 ∧ slots + 12 ≤ 7293034) (hS : Sim tx ps nm v vn hs ww z)
    (kk : ∀ (tx : Nat → Nat → Int32) (ps : Nat → Nat → Int32) (nm : Nat → Int64) (v : Nat → Nat → Int32) (vn : Nat → Int64) (hs : Nat → Nat → Int32) (ww : Nat → Nat → Nat → Int32) (out : Nat → Int64) (z : Nat → Nat → Int32) (H : Heap) (locs : List Loc) (ls : Array Slot), Sim tx ps nm v vn hs ww z → Rg D T A s (gL T aF aR aD aP aH aW aO aM tx ps nm v vn hs ww out z) H locs → lv_has ls 9 [(4, .int x4), (3, .ref aO), (2, .ref (aM 0)), (1, .ref (aF 0)), (0, .ref b)] → W p l e room_1 s m args below meth c H locs (cells + 1) (slots + 6) Q (F0 m 1909 ls []))
    (G : Rg D T A s (gL T aF aR aD aP aH aW aO aM tx ps nm v vn hs ww out z) H locs) (hl : lv_has ls 9 [(4, .int x4), (3, .ref aO), (2, .ref (aM 0)), (1, .ref (aF 0)), (0, .ref b)]) : W p l e room_1 s m args below meth c H locs cells slots Q (F0 m 996 ls []) := by
  by_cases hb : xs (x4 + 2).toNatClampNeg = 0
  · skip
    refine lv_aload_n F.1 F.2.1 dL_law_996 rfl (lv_at hl 3 rfl) ?_
    refine lv_aload_n F.1 F.2.1 dL_law_997 rfl (lv_at hl 4 rfl) ?_
    refine lv_iload F.1 F.2.1 dL_law_998 (lv_at hl 0 rfl) ?_
    refine lv_iconst (v := 1) F.1 F.2.1 dL_law_1000 (by decide) ?_
    refine lv_iadd F.1 F.2.1 dL_law_1001 ?_
    refine va_sld F.1 F.2.1 hX hbl hbA G.2.2.2.1 hi1 dL_law_1002 ?_
    refine lv_aload_n F.1 F.2.1 dL_law_1003 rfl (lv_at hl 4 rfl) ?_
    refine lv_iload F.1 F.2.1 dL_law_1004 (lv_at hl 0 rfl) ?_
    refine lv_iconst (v := 2) F.1 F.2.1 dL_law_1006 (by decide) ?_
    refine lv_iadd F.1 F.2.1 dL_law_1007 ?_
    refine va_sld F.1 F.2.1 hX hbl hbA G.2.2.2.1 hi2 dL_law_1008 ?_
    refine lv_if_eq (tgt := 1016) F.1 F.2.1 dL_law_1009 (by decide) (fun c => ?_) (fun c => absurd hb c)
    refine lv_iconst (v := 0) F.1 F.2.1 dL_law_1016 (by decide) ?_
    refine lv_aload_n F.1 F.2.1 dL_law_1017 rfl (lv_at hl 1 rfl) ?_
    obtain ⟨e, r, b', zR, h1, h2, hd, hSR⟩ := Hs tx ps nm v vn hs ww z hS (xs (x4 + 1).toNatClampNeg) 0 (Or.inl rfl)
    rcases hd with ⟨rfl, hz, rfl⟩ | ⟨rfl, hz⟩
    · have hthr : zR 0 0 = 0 := hz
      refine kl_callSW (rv := some (.int 0)) (Wc := gO T aF aR aD aP aH aW aO tx ps nm v vn hs ww out) (W2 := gO T aF aR aD aP aH aW aO tx ps nm v vn hs ww (vp_updL out 0 r.toInt64)) (Wn := gL T aF aR aD aP aH aW aO aM tx ps nm v vn hs ww (vp_updL out 0 r.toInt64) z) (As := [.ref (aF 0), .int (xs (x4 + 1).toNatClampNeg), .int 0, .ref aO]) (rest := []) F G (mL_traffic l hst D T aF aR aD aP aH aW aO tx ps nm v vn hs ww out (xs (x4 + 1).toNatClampNeg) 0 (k := 0) (outR := (vp_updL out 0 r.toInt64)) h1 (Or.inl ⟨rfl, rfl, rfl⟩)) (vx_cwSW 4 hAL (kgL_c kLl176 (kgL_c kLl177 (kgL_c kLl84 (kgL_c kLl178 kgL_a)))) rfl rfl rfl (by decide +kernel) ⟨Nat.le_of_ble_eq_true rfl, Nat.le_of_ble_eq_true rfl⟩) (kCut_LO G) rfl hl.1 rfl (Nat.le_of_ble_eq_true rfl) dL_law_1018 ⟨kroom1 hcs.1 (Nat.le_of_ble_eq_true rfl), kroom1 hcs.2 (Nat.le_of_ble_eq_true rfl)⟩ (cN := cells + 1) (sN := slots + 6) ⟨rfl, rfl⟩ (fun H locs G => ?_)
      have hcmp : lg_cmp ((vp_updL out 0 r.toInt64) (0 : Int32).toNatClampNeg) r.toInt64 = 0 := lg_same _ _
      refine lv_istore (lv' := [(5, .int 0), (4, .int x4), (3, .ref aO), (2, .ref (aM 0)), (1, .ref (aF 0)), (0, .ref b)]) F.1 F.2.1 dL_law_1021 hl (by decide) rfl (fun ls hl => ?_)
      refine lv_aload_n F.1 F.2.1 dL_law_1023 rfl (lv_at hl 3 rfl) ?_
      refine lv_aload_n F.1 F.2.1 dL_law_1024 rfl (lv_at hl 5 rfl) ?_
      refine lv_iload F.1 F.2.1 dL_law_1025 (lv_at hl 1 rfl) ?_
      refine lv_iconst (v := 1) F.1 F.2.1 dL_law_1027 (by decide) ?_
      refine lv_iadd F.1 F.2.1 dL_law_1028 ?_
      refine va_sld F.1 F.2.1 hX hbl hbA G.2.2.2.1 hi1 dL_law_1029 ?_
      refine lv_aload_n F.1 F.2.1 dL_law_1030 rfl (lv_at hl 5 rfl) ?_
      refine lv_iload F.1 F.2.1 dL_law_1031 (lv_at hl 1 rfl) ?_
      refine lv_iconst (v := 2) F.1 F.2.1 dL_law_1033 (by decide) ?_
      refine lv_iadd F.1 F.2.1 dL_law_1034 ?_
      refine va_sld F.1 F.2.1 hX hbl hbA G.2.2.2.1 hi2 dL_law_1035 ?_
      refine lv_if_eq (tgt := 1043) F.1 F.2.1 dL_law_1036 (by decide) (fun c => ?_) (fun c => absurd hb c)
      refine lv_iconst (v := 0) F.1 F.2.1 dL_law_1043 (by decide) ?_
      refine k_callVR (rv := _) (Wc := gM T aM z) (W2 := gM T aM zR) (Wn := gL T aF aR aD aP aH aW aO aM tx ps nm v vn hs ww (vp_updL out 0 r.toInt64) zR) (As := [.int (xs (x4 + 1).toNatClampNeg), .int 0]) (rest := []) F G (mX11_traffic l D T aM z (xs (x4 + 1).toNatClampNeg) 0 h2) (cwV 2 hAL (kgL_c kLl179 (kgL_c kLl180 (kgL_c kLl181 (kgL_c (kA kl788) (kgL_c (kA kl1002) kgL_k))))) rfl rfl rfl (by decide +kernel) ⟨Nat.le_of_ble_eq_true rfl, Nat.le_of_ble_eq_true rfl⟩) (kg_recv G 0 0 (by decide) rfl (q := (RX11, TX11, 35)) rfl) (kCut_LM G) rfl hl.1 rfl (Nat.le_of_ble_eq_true rfl) dL_law_1044 ⟨kroom2 hcs.1 (Nat.le_of_ble_eq_true rfl), kroom2 hcs.2 (Nat.le_of_ble_eq_true rfl)⟩ (cN := cells + 1) (sN := slots + 6) ⟨rfl, rfl⟩ (fun H locs G => ?_)
      have hS := hSR
      refine lv_istore (lv' := [(6, .int r), (5, .int 0), (4, .int x4), (3, .ref aO), (2, .ref (aM 0)), (1, .ref (aF 0)), (0, .ref b)]) F.1 F.2.1 dL_law_1047 hl (by decide) rfl (fun ls hl => ?_)
      refine lv_aload_n F.1 F.2.1 dL_law_1049 rfl (lv_at hl 4 rfl) ?_
      refine k_callVR (rv := (some (.int (zR 0 0)))) (Wc := gM T aM zR) (W2 := gM T aM zR) (Wn := gL T aF aR aD aP aH aW aO aM tx ps nm v vn hs ww (vp_updL out 0 r.toInt64) zR) (As := []) (rest := []) F G (mX11_thrown l D T aM zR rfl) (cwV 0 hAL (kgL_c kLl89 (kgL_c kLl90 (kgL_c kLl91 (kgL_c (kA kl788) (kgL_c (kA kl803) kgL_k))))) rfl rfl rfl (by decide +kernel) ⟨Nat.le_of_ble_eq_true rfl, Nat.le_of_ble_eq_true rfl⟩) (kg_recv G 0 0 (by decide) rfl (q := (RX11, TX11, 35)) rfl) (kCut_LM G) rfl hl.1 rfl (Nat.le_of_ble_eq_true rfl) dL_law_1050 ⟨kroom2 hcs.1 (Nat.le_of_ble_eq_true rfl), kroom2 hcs.2 (Nat.le_of_ble_eq_true rfl)⟩ (cN := cells + 1) (sN := slots + 6) ⟨rfl, rfl⟩ (fun H locs G => ?_)
      refine lv_iload F.1 F.2.1 dL_law_1053 (lv_at hl 1 rfl) ?_
      refine lv_icmp_eq (tgt := 1060) F.1 F.2.1 dL_law_1055 (by decide) (fun c => ?_) (fun c => absurd hthr c)
      refine lv_iload F.1 F.2.1 dL_law_1060 (lv_at hl 1 rfl) ?_
      refine lv_if_ne (tgt := 1077) F.1 F.2.1 dL_law_1062 (by decide) (fun c => absurd (by decide) c) (fun c => ?_)
      refine lv_aload_n F.1 F.2.1 dL_law_1065 rfl (lv_at hl 3 rfl) ?_
      refine lv_iconst (v := 0) F.1 F.2.1 dL_law_1066 (by decide) ?_
      refine kg_lald F G 1 0 (by decide) rfl (i := 0) (kin (by decide +kernel)) dL_law_1067 ?_
      refine lv_iload F.1 F.2.1 dL_law_1068 (lv_at hl 0 rfl) ?_
      refine lv_i2l (v := r.toInt64) F.1 F.2.1 dL_law_1070 rfl ?_
      refine W.lcmp F.1 F.2.1 dL_law_1071 ?_
      refine lv_if_eq (tgt := 1077) F.1 F.2.1 dL_law_1072 (by decide) (fun c => ?_) (fun c => absurd hcmp c)
      refine lv_goto (tgt := 1909) F.1 F.2.1 dL_law_1077 (by decide) ?_
      exact kk tx ps nm v vn hs ww (vp_updL out 0 r.toInt64) zR _ _ _ hS G (lv_sub hl [2, 3, 4, 5, 6] rfl)
    · have hthr : zR 0 0 = 1 := hz
      refine kl_callSW (rv := some (.int 1)) (Wc := gO T aF aR aD aP aH aW aO tx ps nm v vn hs ww out) (W2 := gO T aF aR aD aP aH aW aO tx ps nm v vn hs ww out) (Wn := gL T aF aR aD aP aH aW aO aM tx ps nm v vn hs ww out z) (As := [.ref (aF 0), .int (xs (x4 + 1).toNatClampNeg), .int 0, .ref aO]) (rest := []) F G (mL_traffic l hst D T aF aR aD aP aH aW aO tx ps nm v vn hs ww out (xs (x4 + 1).toNatClampNeg) 0 (k := 1) (outR := out) h1 (Or.inr ⟨rfl, rfl, rfl⟩)) (vx_cwSW 4 hAL (kgL_c kLl176 (kgL_c kLl177 (kgL_c kLl84 (kgL_c kLl178 kgL_a)))) rfl rfl rfl (by decide +kernel) ⟨Nat.le_of_ble_eq_true rfl, Nat.le_of_ble_eq_true rfl⟩) (kCut_LO G) rfl hl.1 rfl (Nat.le_of_ble_eq_true rfl) dL_law_1018 ⟨kroom1 hcs.1 (Nat.le_of_ble_eq_true rfl), kroom1 hcs.2 (Nat.le_of_ble_eq_true rfl)⟩ (cN := cells + 1) (sN := slots + 6) ⟨rfl, rfl⟩ (fun H locs G => ?_)
      refine lv_istore (lv' := [(5, .int 1), (4, .int x4), (3, .ref aO), (2, .ref (aM 0)), (1, .ref (aF 0)), (0, .ref b)]) F.1 F.2.1 dL_law_1021 hl (by decide) rfl (fun ls hl => ?_)
      refine lv_aload_n F.1 F.2.1 dL_law_1023 rfl (lv_at hl 3 rfl) ?_
      refine lv_aload_n F.1 F.2.1 dL_law_1024 rfl (lv_at hl 5 rfl) ?_
      refine lv_iload F.1 F.2.1 dL_law_1025 (lv_at hl 1 rfl) ?_
      refine lv_iconst (v := 1) F.1 F.2.1 dL_law_1027 (by decide) ?_
      refine lv_iadd F.1 F.2.1 dL_law_1028 ?_
      refine va_sld F.1 F.2.1 hX hbl hbA G.2.2.2.1 hi1 dL_law_1029 ?_
      refine lv_aload_n F.1 F.2.1 dL_law_1030 rfl (lv_at hl 5 rfl) ?_
      refine lv_iload F.1 F.2.1 dL_law_1031 (lv_at hl 1 rfl) ?_
      refine lv_iconst (v := 2) F.1 F.2.1 dL_law_1033 (by decide) ?_
      refine lv_iadd F.1 F.2.1 dL_law_1034 ?_
      refine va_sld F.1 F.2.1 hX hbl hbA G.2.2.2.1 hi2 dL_law_1035 ?_
      refine lv_if_eq (tgt := 1043) F.1 F.2.1 dL_law_1036 (by decide) (fun c => ?_) (fun c => absurd hb c)
      refine lv_iconst (v := 0) F.1 F.2.1 dL_law_1043 (by decide) ?_
      refine k_callVR (rv := _) (Wc := gM T aM z) (W2 := gM T aM zR) (Wn := gL T aF aR aD aP aH aW aO aM tx ps nm v vn hs ww out zR) (As := [.int (xs (x4 + 1).toNatClampNeg), .int 0]) (rest := []) F G (mX11_traffic l D T aM z (xs (x4 + 1).toNatClampNeg) 0 h2) (cwV 2 hAL (kgL_c kLl179 (kgL_c kLl180 (kgL_c kLl181 (kgL_c (kA kl788) (kgL_c (kA kl1002) kgL_k))))) rfl rfl rfl (by decide +kernel) ⟨Nat.le_of_ble_eq_true rfl, Nat.le_of_ble_eq_true rfl⟩) (kg_recv G 0 0 (by decide) rfl (q := (RX11, TX11, 35)) rfl) (kCut_LM G) rfl hl.1 rfl (Nat.le_of_ble_eq_true rfl) dL_law_1044 ⟨kroom2 hcs.1 (Nat.le_of_ble_eq_true rfl), kroom2 hcs.2 (Nat.le_of_ble_eq_true rfl)⟩ (cN := cells + 1) (sN := slots + 6) ⟨rfl, rfl⟩ (fun H locs G => ?_)
      have hS := hSR
      refine lv_istore (lv' := [(6, .int b'), (5, .int 1), (4, .int x4), (3, .ref aO), (2, .ref (aM 0)), (1, .ref (aF 0)), (0, .ref b)]) F.1 F.2.1 dL_law_1047 hl (by decide) rfl (fun ls hl => ?_)
      refine lv_aload_n F.1 F.2.1 dL_law_1049 rfl (lv_at hl 4 rfl) ?_
      refine k_callVR (rv := (some (.int (zR 0 0)))) (Wc := gM T aM zR) (W2 := gM T aM zR) (Wn := gL T aF aR aD aP aH aW aO aM tx ps nm v vn hs ww out zR) (As := []) (rest := []) F G (mX11_thrown l D T aM zR rfl) (cwV 0 hAL (kgL_c kLl89 (kgL_c kLl90 (kgL_c kLl91 (kgL_c (kA kl788) (kgL_c (kA kl803) kgL_k))))) rfl rfl rfl (by decide +kernel) ⟨Nat.le_of_ble_eq_true rfl, Nat.le_of_ble_eq_true rfl⟩) (kg_recv G 0 0 (by decide) rfl (q := (RX11, TX11, 35)) rfl) (kCut_LM G) rfl hl.1 rfl (Nat.le_of_ble_eq_true rfl) dL_law_1050 ⟨kroom2 hcs.1 (Nat.le_of_ble_eq_true rfl), kroom2 hcs.2 (Nat.le_of_ble_eq_true rfl)⟩ (cN := cells + 1) (sN := slots + 6) ⟨rfl, rfl⟩ (fun H locs G => ?_)
      refine lv_iload F.1 F.2.1 dL_law_1053 (lv_at hl 1 rfl) ?_
      refine lv_icmp_eq (tgt := 1060) F.1 F.2.1 dL_law_1055 (by decide) (fun c => ?_) (fun c => absurd hthr c)
      refine lv_iload F.1 F.2.1 dL_law_1060 (lv_at hl 1 rfl) ?_
      refine lv_if_ne (tgt := 1077) F.1 F.2.1 dL_law_1062 (by decide) (fun c => ?_) (fun c => absurd c (by decide))
      refine lv_goto (tgt := 1909) F.1 F.2.1 dL_law_1077 (by decide) ?_
      exact kk tx ps nm v vn hs ww out zR _ _ _ hS G (lv_sub hl [2, 3, 4, 5, 6] rfl)
  · skip
    refine lv_aload_n F.1 F.2.1 dL_law_996 rfl (lv_at hl 3 rfl) ?_
    refine lv_aload_n F.1 F.2.1 dL_law_997 rfl (lv_at hl 4 rfl) ?_
    refine lv_iload F.1 F.2.1 dL_law_998 (lv_at hl 0 rfl) ?_
    refine lv_iconst (v := 1) F.1 F.2.1 dL_law_1000 (by decide) ?_
    refine lv_iadd F.1 F.2.1 dL_law_1001 ?_
    refine va_sld F.1 F.2.1 hX hbl hbA G.2.2.2.1 hi1 dL_law_1002 ?_
    refine lv_aload_n F.1 F.2.1 dL_law_1003 rfl (lv_at hl 4 rfl) ?_
    refine lv_iload F.1 F.2.1 dL_law_1004 (lv_at hl 0 rfl) ?_
    refine lv_iconst (v := 2) F.1 F.2.1 dL_law_1006 (by decide) ?_
    refine lv_iadd F.1 F.2.1 dL_law_1007 ?_
    refine va_sld F.1 F.2.1 hX hbl hbA G.2.2.2.1 hi2 dL_law_1008 ?_
    refine lv_if_eq (tgt := 1016) F.1 F.2.1 dL_law_1009 (by decide) (fun c => absurd c hb) (fun c => ?_)
    refine lv_iconst (v := 1) F.1 F.2.1 dL_law_1012 (by decide) ?_
    refine lv_goto (tgt := 1017) F.1 F.2.1 dL_law_1013 (by decide) ?_
    refine lv_aload_n F.1 F.2.1 dL_law_1017 rfl (lv_at hl 1 rfl) ?_
    obtain ⟨e, r, b', zR, h1, h2, hd, hSR⟩ := Hs tx ps nm v vn hs ww z hS (xs (x4 + 1).toNatClampNeg) 1 (Or.inr rfl)
    rcases hd with ⟨rfl, hz, rfl⟩ | ⟨rfl, hz⟩
    · have hthr : zR 0 0 = 0 := hz
      refine kl_callSW (rv := some (.int 0)) (Wc := gO T aF aR aD aP aH aW aO tx ps nm v vn hs ww out) (W2 := gO T aF aR aD aP aH aW aO tx ps nm v vn hs ww (vp_updL out 0 r.toInt64)) (Wn := gL T aF aR aD aP aH aW aO aM tx ps nm v vn hs ww (vp_updL out 0 r.toInt64) z) (As := [.ref (aF 0), .int (xs (x4 + 1).toNatClampNeg), .int 1, .ref aO]) (rest := []) F G (mL_traffic l hst D T aF aR aD aP aH aW aO tx ps nm v vn hs ww out (xs (x4 + 1).toNatClampNeg) 1 (k := 0) (outR := (vp_updL out 0 r.toInt64)) h1 (Or.inl ⟨rfl, rfl, rfl⟩)) (vx_cwSW 4 hAL (kgL_c kLl176 (kgL_c kLl177 (kgL_c kLl84 (kgL_c kLl178 kgL_a)))) rfl rfl rfl (by decide +kernel) ⟨Nat.le_of_ble_eq_true rfl, Nat.le_of_ble_eq_true rfl⟩) (kCut_LO G) rfl hl.1 rfl (Nat.le_of_ble_eq_true rfl) dL_law_1018 ⟨kroom1 hcs.1 (Nat.le_of_ble_eq_true rfl), kroom1 hcs.2 (Nat.le_of_ble_eq_true rfl)⟩ (cN := cells + 1) (sN := slots + 6) ⟨rfl, rfl⟩ (fun H locs G => ?_)
      have hcmp : lg_cmp ((vp_updL out 0 r.toInt64) (0 : Int32).toNatClampNeg) r.toInt64 = 0 := lg_same _ _
      refine lv_istore (lv' := [(5, .int 0), (4, .int x4), (3, .ref aO), (2, .ref (aM 0)), (1, .ref (aF 0)), (0, .ref b)]) F.1 F.2.1 dL_law_1021 hl (by decide) rfl (fun ls hl => ?_)
      refine lv_aload_n F.1 F.2.1 dL_law_1023 rfl (lv_at hl 3 rfl) ?_
      refine lv_aload_n F.1 F.2.1 dL_law_1024 rfl (lv_at hl 5 rfl) ?_
      refine lv_iload F.1 F.2.1 dL_law_1025 (lv_at hl 1 rfl) ?_
      refine lv_iconst (v := 1) F.1 F.2.1 dL_law_1027 (by decide) ?_
      refine lv_iadd F.1 F.2.1 dL_law_1028 ?_
      refine va_sld F.1 F.2.1 hX hbl hbA G.2.2.2.1 hi1 dL_law_1029 ?_
      refine lv_aload_n F.1 F.2.1 dL_law_1030 rfl (lv_at hl 5 rfl) ?_
      refine lv_iload F.1 F.2.1 dL_law_1031 (lv_at hl 1 rfl) ?_
      refine lv_iconst (v := 2) F.1 F.2.1 dL_law_1033 (by decide) ?_
      refine lv_iadd F.1 F.2.1 dL_law_1034 ?_
      refine va_sld F.1 F.2.1 hX hbl hbA G.2.2.2.1 hi2 dL_law_1035 ?_
      refine lv_if_eq (tgt := 1043) F.1 F.2.1 dL_law_1036 (by decide) (fun c => absurd c hb) (fun c => ?_)
      refine lv_iconst (v := 1) F.1 F.2.1 dL_law_1039 (by decide) ?_
      refine lv_goto (tgt := 1044) F.1 F.2.1 dL_law_1040 (by decide) ?_
      refine k_callVR (rv := _) (Wc := gM T aM z) (W2 := gM T aM zR) (Wn := gL T aF aR aD aP aH aW aO aM tx ps nm v vn hs ww (vp_updL out 0 r.toInt64) zR) (As := [.int (xs (x4 + 1).toNatClampNeg), .int 1]) (rest := []) F G (mX11_traffic l D T aM z (xs (x4 + 1).toNatClampNeg) 1 h2) (cwV 2 hAL (kgL_c kLl179 (kgL_c kLl180 (kgL_c kLl181 (kgL_c (kA kl788) (kgL_c (kA kl1002) kgL_k))))) rfl rfl rfl (by decide +kernel) ⟨Nat.le_of_ble_eq_true rfl, Nat.le_of_ble_eq_true rfl⟩) (kg_recv G 0 0 (by decide) rfl (q := (RX11, TX11, 35)) rfl) (kCut_LM G) rfl hl.1 rfl (Nat.le_of_ble_eq_true rfl) dL_law_1044 ⟨kroom2 hcs.1 (Nat.le_of_ble_eq_true rfl), kroom2 hcs.2 (Nat.le_of_ble_eq_true rfl)⟩ (cN := cells + 1) (sN := slots + 6) ⟨rfl, rfl⟩ (fun H locs G => ?_)
      have hS := hSR
      refine lv_istore (lv' := [(6, .int r), (5, .int 0), (4, .int x4), (3, .ref aO), (2, .ref (aM 0)), (1, .ref (aF 0)), (0, .ref b)]) F.1 F.2.1 dL_law_1047 hl (by decide) rfl (fun ls hl => ?_)
      refine lv_aload_n F.1 F.2.1 dL_law_1049 rfl (lv_at hl 4 rfl) ?_
      refine k_callVR (rv := (some (.int (zR 0 0)))) (Wc := gM T aM zR) (W2 := gM T aM zR) (Wn := gL T aF aR aD aP aH aW aO aM tx ps nm v vn hs ww (vp_updL out 0 r.toInt64) zR) (As := []) (rest := []) F G (mX11_thrown l D T aM zR rfl) (cwV 0 hAL (kgL_c kLl89 (kgL_c kLl90 (kgL_c kLl91 (kgL_c (kA kl788) (kgL_c (kA kl803) kgL_k))))) rfl rfl rfl (by decide +kernel) ⟨Nat.le_of_ble_eq_true rfl, Nat.le_of_ble_eq_true rfl⟩) (kg_recv G 0 0 (by decide) rfl (q := (RX11, TX11, 35)) rfl) (kCut_LM G) rfl hl.1 rfl (Nat.le_of_ble_eq_true rfl) dL_law_1050 ⟨kroom2 hcs.1 (Nat.le_of_ble_eq_true rfl), kroom2 hcs.2 (Nat.le_of_ble_eq_true rfl)⟩ (cN := cells + 1) (sN := slots + 6) ⟨rfl, rfl⟩ (fun H locs G => ?_)
      refine lv_iload F.1 F.2.1 dL_law_1053 (lv_at hl 1 rfl) ?_
      refine lv_icmp_eq (tgt := 1060) F.1 F.2.1 dL_law_1055 (by decide) (fun c => ?_) (fun c => absurd hthr c)
      refine lv_iload F.1 F.2.1 dL_law_1060 (lv_at hl 1 rfl) ?_
      refine lv_if_ne (tgt := 1077) F.1 F.2.1 dL_law_1062 (by decide) (fun c => absurd (by decide) c) (fun c => ?_)
      refine lv_aload_n F.1 F.2.1 dL_law_1065 rfl (lv_at hl 3 rfl) ?_
      refine lv_iconst (v := 0) F.1 F.2.1 dL_law_1066 (by decide) ?_
      refine kg_lald F G 1 0 (by decide) rfl (i := 0) (kin (by decide +kernel)) dL_law_1067 ?_
      refine lv_iload F.1 F.2.1 dL_law_1068 (lv_at hl 0 rfl) ?_
      refine lv_i2l (v := r.toInt64) F.1 F.2.1 dL_law_1070 rfl ?_
      refine W.lcmp F.1 F.2.1 dL_law_1071 ?_
      refine lv_if_eq (tgt := 1077) F.1 F.2.1 dL_law_1072 (by decide) (fun c => ?_) (fun c => absurd hcmp c)
      refine lv_goto (tgt := 1909) F.1 F.2.1 dL_law_1077 (by decide) ?_
      exact kk tx ps nm v vn hs ww (vp_updL out 0 r.toInt64) zR _ _ _ hS G (lv_sub hl [2, 3, 4, 5, 6] rfl)
    · have hthr : zR 0 0 = 1 := hz
      refine kl_callSW (rv := some (.int 1)) (Wc := gO T aF aR aD aP aH aW aO tx ps nm v vn hs ww out) (W2 := gO T aF aR aD aP aH aW aO tx ps nm v vn hs ww out) (Wn := gL T aF aR aD aP aH aW aO aM tx ps nm v vn hs ww out z) (As := [.ref (aF 0), .int (xs (x4 + 1).toNatClampNeg), .int 1, .ref aO]) (rest := []) F G (mL_traffic l hst D T aF aR aD aP aH aW aO tx ps nm v vn hs ww out (xs (x4 + 1).toNatClampNeg) 1 (k := 1) (outR := out) h1 (Or.inr ⟨rfl, rfl, rfl⟩)) (vx_cwSW 4 hAL (kgL_c kLl176 (kgL_c kLl177 (kgL_c kLl84 (kgL_c kLl178 kgL_a)))) rfl rfl rfl (by decide +kernel) ⟨Nat.le_of_ble_eq_true rfl, Nat.le_of_ble_eq_true rfl⟩) (kCut_LO G) rfl hl.1 rfl (Nat.le_of_ble_eq_true rfl) dL_law_1018 ⟨kroom1 hcs.1 (Nat.le_of_ble_eq_true rfl), kroom1 hcs.2 (Nat.le_of_ble_eq_true rfl)⟩ (cN := cells + 1) (sN := slots + 6) ⟨rfl, rfl⟩ (fun H locs G => ?_)
      refine lv_istore (lv' := [(5, .int 1), (4, .int x4), (3, .ref aO), (2, .ref (aM 0)), (1, .ref (aF 0)), (0, .ref b)]) F.1 F.2.1 dL_law_1021 hl (by decide) rfl (fun ls hl => ?_)
      refine lv_aload_n F.1 F.2.1 dL_law_1023 rfl (lv_at hl 3 rfl) ?_
      refine lv_aload_n F.1 F.2.1 dL_law_1024 rfl (lv_at hl 5 rfl) ?_
      refine lv_iload F.1 F.2.1 dL_law_1025 (lv_at hl 1 rfl) ?_
      refine lv_iconst (v := 1) F.1 F.2.1 dL_law_1027 (by decide) ?_
      refine lv_iadd F.1 F.2.1 dL_law_1028 ?_
      refine va_sld F.1 F.2.1 hX hbl hbA G.2.2.2.1 hi1 dL_law_1029 ?_
      refine lv_aload_n F.1 F.2.1 dL_law_1030 rfl (lv_at hl 5 rfl) ?_
      refine lv_iload F.1 F.2.1 dL_law_1031 (lv_at hl 1 rfl) ?_
      refine lv_iconst (v := 2) F.1 F.2.1 dL_law_1033 (by decide) ?_
      refine lv_iadd F.1 F.2.1 dL_law_1034 ?_
      refine va_sld F.1 F.2.1 hX hbl hbA G.2.2.2.1 hi2 dL_law_1035 ?_
      refine lv_if_eq (tgt := 1043) F.1 F.2.1 dL_law_1036 (by decide) (fun c => absurd c hb) (fun c => ?_)
      refine lv_iconst (v := 1) F.1 F.2.1 dL_law_1039 (by decide) ?_
      refine lv_goto (tgt := 1044) F.1 F.2.1 dL_law_1040 (by decide) ?_
      refine k_callVR (rv := _) (Wc := gM T aM z) (W2 := gM T aM zR) (Wn := gL T aF aR aD aP aH aW aO aM tx ps nm v vn hs ww out zR) (As := [.int (xs (x4 + 1).toNatClampNeg), .int 1]) (rest := []) F G (mX11_traffic l D T aM z (xs (x4 + 1).toNatClampNeg) 1 h2) (cwV 2 hAL (kgL_c kLl179 (kgL_c kLl180 (kgL_c kLl181 (kgL_c (kA kl788) (kgL_c (kA kl1002) kgL_k))))) rfl rfl rfl (by decide +kernel) ⟨Nat.le_of_ble_eq_true rfl, Nat.le_of_ble_eq_true rfl⟩) (kg_recv G 0 0 (by decide) rfl (q := (RX11, TX11, 35)) rfl) (kCut_LM G) rfl hl.1 rfl (Nat.le_of_ble_eq_true rfl) dL_law_1044 ⟨kroom2 hcs.1 (Nat.le_of_ble_eq_true rfl), kroom2 hcs.2 (Nat.le_of_ble_eq_true rfl)⟩ (cN := cells + 1) (sN := slots + 6) ⟨rfl, rfl⟩ (fun H locs G => ?_)
      have hS := hSR
      refine lv_istore (lv' := [(6, .int b'), (5, .int 1), (4, .int x4), (3, .ref aO), (2, .ref (aM 0)), (1, .ref (aF 0)), (0, .ref b)]) F.1 F.2.1 dL_law_1047 hl (by decide) rfl (fun ls hl => ?_)
      refine lv_aload_n F.1 F.2.1 dL_law_1049 rfl (lv_at hl 4 rfl) ?_
      refine k_callVR (rv := (some (.int (zR 0 0)))) (Wc := gM T aM zR) (W2 := gM T aM zR) (Wn := gL T aF aR aD aP aH aW aO aM tx ps nm v vn hs ww out zR) (As := []) (rest := []) F G (mX11_thrown l D T aM zR rfl) (cwV 0 hAL (kgL_c kLl89 (kgL_c kLl90 (kgL_c kLl91 (kgL_c (kA kl788) (kgL_c (kA kl803) kgL_k))))) rfl rfl rfl (by decide +kernel) ⟨Nat.le_of_ble_eq_true rfl, Nat.le_of_ble_eq_true rfl⟩) (kg_recv G 0 0 (by decide) rfl (q := (RX11, TX11, 35)) rfl) (kCut_LM G) rfl hl.1 rfl (Nat.le_of_ble_eq_true rfl) dL_law_1050 ⟨kroom2 hcs.1 (Nat.le_of_ble_eq_true rfl), kroom2 hcs.2 (Nat.le_of_ble_eq_true rfl)⟩ (cN := cells + 1) (sN := slots + 6) ⟨rfl, rfl⟩ (fun H locs G => ?_)
      refine lv_iload F.1 F.2.1 dL_law_1053 (lv_at hl 1 rfl) ?_
      refine lv_icmp_eq (tgt := 1060) F.1 F.2.1 dL_law_1055 (by decide) (fun c => ?_) (fun c => absurd hthr c)
      refine lv_iload F.1 F.2.1 dL_law_1060 (lv_at hl 1 rfl) ?_
      refine lv_if_ne (tgt := 1077) F.1 F.2.1 dL_law_1062 (by decide) (fun c => ?_) (fun c => absurd c (by decide))
      refine lv_goto (tgt := 1909) F.1 F.2.1 dL_law_1077 (by decide) ?_
      exact kk tx ps nm v vn hs ww out zR _ _ _ hS G (lv_sub hl [2, 3, 4, 5, 6] rfl)
set_option maxHeartbeats 8000000 in
set_option maxRecDepth 100000 in
theorem lc_learned {Sim : (Nat → Nat → Int32) → (Nat → Nat → Int32) → (Nat → Int64) → (Nat → Nat → Int32) → (Nat → Int64) → (Nat → Nat → Int32) → (Nat → Nat → Nat → Int32) → (Nat → Nat → Int32) → Prop} (Hs : St_learned Sim) (hst : l.stackTraces = false) (F : CallFix p m c code 9 s args kAll RL) (hAL : ∀ w ∈ kAL, w.before args s = true) (hr : meth.sig.returnType = ret) (hlk : meth.locks = false) (hX : va_X b L xs s s.heap) (hbl : b < s.heap.size) (hbA : ¬ A b) {x4 : Int32} (hi1 : vp_in (x4 + 1) L) (hi2 : vp_in (x4 + 2) L) (hi3 : vp_in (x4 + 3) L) (hi4 : vp_in (x4 + 4) L) (hi5 : vp_in (x4 + 5) L) (hcs : cells + 2 ≤ 601024 ∧ slots + 12 ≤ 7293034) (hS : Sim tx ps nm v vn hs ww z)
    (kk : ∀ (tx : Nat → Nat → Int32) (ps : Nat → Nat → Int32) (nm : Nat → Int64) (v : Nat → Nat → Int32) (vn : Nat → Int64) (hs : Nat → Nat → Int32) (ww : Nat → Nat → Nat → Int32) (out : Nat → Int64) (z : Nat → Nat → Int32) (H : Heap) (locs : List Loc) (ls : Array Slot), Sim tx ps nm v vn hs ww z → Rg D T A s (gL T aF aR aD aP aH aW aO aM tx ps nm v vn hs ww out z) H locs → lv_has ls 9 [(4, .int x4), (3, .ref aO), (2, .ref (aM 0)), (1, .ref (aF 0)), (0, .ref b)] → W p l e room_1 s m args below meth c H locs (cells + 1) (slots + 6) Q (F0 m 1909 ls []))
    (G : Rg D T A s (gL T aF aR aD aP aH aW aO aM tx ps nm v vn hs ww out z) H locs) (hl : lv_has ls 9 [(4, .int x4), (3, .ref aO), (2, .ref (aM 0)), (1, .ref (aF 0)), (0, .ref b)]) : W p l e room_1 s m args below meth c H locs cells slots Q (F0 m 1080 ls []) := by
  refine lv_aload_n F.1 F.2.1 dL_law_1080 rfl (lv_at hl 3 rfl) ?_
  refine lv_aload_n F.1 F.2.1 dL_law_1081 rfl (lv_at hl 4 rfl) ?_
  refine lv_iload F.1 F.2.1 dL_law_1082 (lv_at hl 0 rfl) ?_
  refine lv_iconst (v := 1) F.1 F.2.1 dL_law_1084 (by decide) ?_
  refine lv_iadd F.1 F.2.1 dL_law_1085 ?_
  refine va_sld F.1 F.2.1 hX hbl hbA G.2.2.2.1 hi1 dL_law_1086 ?_
  refine lv_aload_n F.1 F.2.1 dL_law_1087 rfl (lv_at hl 1 rfl) ?_
  obtain ⟨e, r, b', zR, h1, h2, hd, hSR⟩ := Hs tx ps nm v vn hs ww z hS (xs (x4 + 1).toNatClampNeg)
  rcases hd with ⟨rfl, hz, rfl⟩ | ⟨rfl, hz⟩
  · have hthr : zR 0 0 = 0 := hz
    refine kl_callSW (rv := some (.int 0)) (Wc := gO T aF aR aD aP aH aW aO tx ps nm v vn hs ww out) (W2 := gO T aF aR aD aP aH aW aO tx ps nm v vn hs ww (vp_updL out 0 r.toInt64)) (Wn := gL T aF aR aD aP aH aW aO aM tx ps nm v vn hs ww (vp_updL out 0 r.toInt64) z) (As := [.ref (aF 0), .int (xs (x4 + 1).toNatClampNeg), .ref aO]) (rest := []) F G (mL_learned l hst D T aF aR aD aP aH aW aO tx ps nm v vn hs ww out (xs (x4 + 1).toNatClampNeg) (k := 0) (outR := (vp_updL out 0 r.toInt64)) h1 (Or.inl ⟨rfl, rfl, rfl⟩)) (vx_cwSW 3 hAL (kgL_c kLl182 (kgL_c kLl183 (kgL_c kLl84 (kgL_c kLl184 kgL_a)))) rfl rfl rfl (by decide +kernel) ⟨Nat.le_of_ble_eq_true rfl, Nat.le_of_ble_eq_true rfl⟩) (kCut_LO G) rfl hl.1 rfl (Nat.le_of_ble_eq_true rfl) dL_law_1088 ⟨kroom1 hcs.1 (Nat.le_of_ble_eq_true rfl), kroom1 hcs.2 (Nat.le_of_ble_eq_true rfl)⟩ (cN := cells + 1) (sN := slots + 6) ⟨rfl, rfl⟩ (fun H locs G => ?_)
    have hcmp : lg_cmp ((vp_updL out 0 r.toInt64) (0 : Int32).toNatClampNeg) r.toInt64 = 0 := lg_same _ _
    refine lv_istore (lv' := [(5, .int 0), (4, .int x4), (3, .ref aO), (2, .ref (aM 0)), (1, .ref (aF 0)), (0, .ref b)]) F.1 F.2.1 dL_law_1091 hl (by decide) rfl (fun ls hl => ?_)
    refine lv_aload_n F.1 F.2.1 dL_law_1093 rfl (lv_at hl 3 rfl) ?_
    refine lv_aload_n F.1 F.2.1 dL_law_1094 rfl (lv_at hl 5 rfl) ?_
    refine lv_iload F.1 F.2.1 dL_law_1095 (lv_at hl 1 rfl) ?_
    refine lv_iconst (v := 1) F.1 F.2.1 dL_law_1097 (by decide) ?_
    refine lv_iadd F.1 F.2.1 dL_law_1098 ?_
    refine va_sld F.1 F.2.1 hX hbl hbA G.2.2.2.1 hi1 dL_law_1099 ?_
    refine k_callVR (rv := _) (Wc := gM T aM z) (W2 := gM T aM zR) (Wn := gL T aF aR aD aP aH aW aO aM tx ps nm v vn hs ww (vp_updL out 0 r.toInt64) zR) (As := [.int (xs (x4 + 1).toNatClampNeg)]) (rest := []) F G (mX11_learned l D T aM z (xs (x4 + 1).toNatClampNeg) h2) (cwV 1 hAL (kgL_c kLl185 (kgL_c kLl186 (kgL_c kLl187 (kgL_c (kA kl788) (kgL_c (kA kl1003) kgL_k))))) rfl rfl rfl (by decide +kernel) ⟨Nat.le_of_ble_eq_true rfl, Nat.le_of_ble_eq_true rfl⟩) (kg_recv G 0 0 (by decide) rfl (q := (RX11, TX11, 35)) rfl) (kCut_LM G) rfl hl.1 rfl (Nat.le_of_ble_eq_true rfl) dL_law_1100 ⟨kroom2 hcs.1 (Nat.le_of_ble_eq_true rfl), kroom2 hcs.2 (Nat.le_of_ble_eq_true rfl)⟩ (cN := cells + 1) (sN := slots + 6) ⟨rfl, rfl⟩ (fun H locs G => ?_)
    have hS := hSR
    refine lv_istore (lv' := [(6, .int r), (5, .int 0), (4, .int x4), (3, .ref aO), (2, .ref (aM 0)), (1, .ref (aF 0)), (0, .ref b)]) F.1 F.2.1 dL_law_1103 hl (by decide) rfl (fun ls hl => ?_)
    refine lv_aload_n F.1 F.2.1 dL_law_1105 rfl (lv_at hl 4 rfl) ?_
    refine k_callVR (rv := (some (.int (zR 0 0)))) (Wc := gM T aM zR) (W2 := gM T aM zR) (Wn := gL T aF aR aD aP aH aW aO aM tx ps nm v vn hs ww (vp_updL out 0 r.toInt64) zR) (As := []) (rest := []) F G (mX11_thrown l D T aM zR rfl) (cwV 0 hAL (kgL_c kLl89 (kgL_c kLl90 (kgL_c kLl91 (kgL_c (kA kl788) (kgL_c (kA kl803) kgL_k))))) rfl rfl rfl (by decide +kernel) ⟨Nat.le_of_ble_eq_true rfl, Nat.le_of_ble_eq_true rfl⟩) (kg_recv G 0 0 (by decide) rfl (q := (RX11, TX11, 35)) rfl) (kCut_LM G) rfl hl.1 rfl (Nat.le_of_ble_eq_true rfl) dL_law_1106 ⟨kroom2 hcs.1 (Nat.le_of_ble_eq_true rfl), kroom2 hcs.2 (Nat.le_of_ble_eq_true rfl)⟩ (cN := cells + 1) (sN := slots + 6) ⟨rfl, rfl⟩ (fun H locs G => ?_)
    refine lv_iload F.1 F.2.1 dL_law_1109 (lv_at hl 1 rfl) ?_
    refine lv_icmp_eq (tgt := 1116) F.1 F.2.1 dL_law_1111 (by decide) (fun c => ?_) (fun c => absurd hthr c)
    refine lv_iload F.1 F.2.1 dL_law_1116 (lv_at hl 1 rfl) ?_
    refine lv_if_ne (tgt := 1133) F.1 F.2.1 dL_law_1118 (by decide) (fun c => absurd (by decide) c) (fun c => ?_)
    refine lv_aload_n F.1 F.2.1 dL_law_1121 rfl (lv_at hl 3 rfl) ?_
    refine lv_iconst (v := 0) F.1 F.2.1 dL_law_1122 (by decide) ?_
    refine kg_lald F G 1 0 (by decide) rfl (i := 0) (kin (by decide +kernel)) dL_law_1123 ?_
    refine lv_iload F.1 F.2.1 dL_law_1124 (lv_at hl 0 rfl) ?_
    refine lv_i2l (v := r.toInt64) F.1 F.2.1 dL_law_1126 rfl ?_
    refine W.lcmp F.1 F.2.1 dL_law_1127 ?_
    refine lv_if_eq (tgt := 1133) F.1 F.2.1 dL_law_1128 (by decide) (fun c => ?_) (fun c => absurd hcmp c)
    refine lv_goto (tgt := 1909) F.1 F.2.1 dL_law_1133 (by decide) ?_
    exact kk tx ps nm v vn hs ww (vp_updL out 0 r.toInt64) zR _ _ _ hS G (lv_sub hl [2, 3, 4, 5, 6] rfl)
  · have hthr : zR 0 0 = 1 := hz
    refine kl_callSW (rv := some (.int 1)) (Wc := gO T aF aR aD aP aH aW aO tx ps nm v vn hs ww out) (W2 := gO T aF aR aD aP aH aW aO tx ps nm v vn hs ww out) (Wn := gL T aF aR aD aP aH aW aO aM tx ps nm v vn hs ww out z) (As := [.ref (aF 0), .int (xs (x4 + 1).toNatClampNeg), .ref aO]) (rest := []) F G (mL_learned l hst D T aF aR aD aP aH aW aO tx ps nm v vn hs ww out (xs (x4 + 1).toNatClampNeg) (k := 1) (outR := out) h1 (Or.inr ⟨rfl, rfl, rfl⟩)) (vx_cwSW 3 hAL (kgL_c kLl182 (kgL_c kLl183 (kgL_c kLl84 (kgL_c kLl184 kgL_a)))) rfl rfl rfl (by decide +kernel) ⟨Nat.le_of_ble_eq_true rfl, Nat.le_of_ble_eq_true rfl⟩) (kCut_LO G) rfl hl.1 rfl (Nat.le_of_ble_eq_true rfl) dL_law_1088 ⟨kroom1 hcs.1 (Nat.le_of_ble_eq_true rfl), kroom1 hcs.2 (Nat.le_of_ble_eq_true rfl)⟩ (cN := cells + 1) (sN := slots + 6) ⟨rfl, rfl⟩ (fun H locs G => ?_)
    refine lv_istore (lv' := [(5, .int 1), (4, .int x4), (3, .ref aO), (2, .ref (aM 0)), (1, .ref (aF 0)), (0, .ref b)]) F.1 F.2.1 dL_law_1091 hl (by decide) rfl (fun ls hl => ?_)
    refine lv_aload_n F.1 F.2.1 dL_law_1093 rfl (lv_at hl 3 rfl) ?_
    refine lv_aload_n F.1 F.2.1 dL_law_1094 rfl (lv_at hl 5 rfl) ?_
    refine lv_iload F.1 F.2.1 dL_law_1095 (lv_at hl 1 rfl) ?_
    refine lv_iconst (v := 1) F.1 F.2.1 dL_law_1097 (by decide) ?_
    refine lv_iadd F.1 F.2.1 dL_law_1098 ?_
    refine va_sld F.1 F.2.1 hX hbl hbA G.2.2.2.1 hi1 dL_law_1099 ?_
    refine k_callVR (rv := _) (Wc := gM T aM z) (W2 := gM T aM zR) (Wn := gL T aF aR aD aP aH aW aO aM tx ps nm v vn hs ww out zR) (As := [.int (xs (x4 + 1).toNatClampNeg)]) (rest := []) F G (mX11_learned l D T aM z (xs (x4 + 1).toNatClampNeg) h2) (cwV 1 hAL (kgL_c kLl185 (kgL_c kLl186 (kgL_c kLl187 (kgL_c (kA kl788) (kgL_c (kA kl1003) kgL_k))))) rfl rfl rfl (by decide +kernel) ⟨Nat.le_of_ble_eq_true rfl, Nat.le_of_ble_eq_true rfl⟩) (kg_recv G 0 0 (by decide) rfl (q := (RX11, TX11, 35)) rfl) (kCut_LM G) rfl hl.1 rfl (Nat.le_of_ble_eq_true rfl) dL_law_1100 ⟨kroom2 hcs.1 (Nat.le_of_ble_eq_true rfl), kroom2 hcs.2 (Nat.le_of_ble_eq_true rfl)⟩ (cN := cells + 1) (sN := slots + 6) ⟨rfl, rfl⟩ (fun H locs G => ?_)
    have hS := hSR
    refine lv_istore (lv' := [(6, .int b'), (5, .int 1), (4, .int x4), (3, .ref aO), (2, .ref (aM 0)), (1, .ref (aF 0)), (0, .ref b)]) F.1 F.2.1 dL_law_1103 hl (by decide) rfl (fun ls hl => ?_)
    refine lv_aload_n F.1 F.2.1 dL_law_1105 rfl (lv_at hl 4 rfl) ?_
    refine k_callVR (rv := (some (.int (zR 0 0)))) (Wc := gM T aM zR) (W2 := gM T aM zR) (Wn := gL T aF aR aD aP aH aW aO aM tx ps nm v vn hs ww out zR) (As := []) (rest := []) F G (mX11_thrown l D T aM zR rfl) (cwV 0 hAL (kgL_c kLl89 (kgL_c kLl90 (kgL_c kLl91 (kgL_c (kA kl788) (kgL_c (kA kl803) kgL_k))))) rfl rfl rfl (by decide +kernel) ⟨Nat.le_of_ble_eq_true rfl, Nat.le_of_ble_eq_true rfl⟩) (kg_recv G 0 0 (by decide) rfl (q := (RX11, TX11, 35)) rfl) (kCut_LM G) rfl hl.1 rfl (Nat.le_of_ble_eq_true rfl) dL_law_1106 ⟨kroom2 hcs.1 (Nat.le_of_ble_eq_true rfl), kroom2 hcs.2 (Nat.le_of_ble_eq_true rfl)⟩ (cN := cells + 1) (sN := slots + 6) ⟨rfl, rfl⟩ (fun H locs G => ?_)
    refine lv_iload F.1 F.2.1 dL_law_1109 (lv_at hl 1 rfl) ?_
    refine lv_icmp_eq (tgt := 1116) F.1 F.2.1 dL_law_1111 (by decide) (fun c => ?_) (fun c => absurd hthr c)
    refine lv_iload F.1 F.2.1 dL_law_1116 (lv_at hl 1 rfl) ?_
    refine lv_if_ne (tgt := 1133) F.1 F.2.1 dL_law_1118 (by decide) (fun c => ?_) (fun c => absurd c (by decide))
    refine lv_goto (tgt := 1909) F.1 F.2.1 dL_law_1133 (by decide) ?_
    exact kk tx ps nm v vn hs ww out zR _ _ _ hS G (lv_sub hl [2, 3, 4, 5, 6] rfl)
set_option maxHeartbeats 8000000 in
set_option maxRecDepth 100000 in
theorem lc_grants {Sim : (Nat → Nat → Int32) → (Nat → Nat → Int32) → (Nat → Int64) → (Nat → Nat → Int32) → (Nat → Int64) → (Nat → Nat → Int32) → (Nat → Nat → Nat → Int32) → (Nat → Nat → Int32) → Prop} (Hs : St_grants Sim) (hst : l.stackTraces = false) (F : CallFix p m c code 9 s args kAll RL) (hAL : ∀ w ∈ kAL, w.before args s = true) (hr : meth.sig.returnType = ret) (hlk : meth.locks = false) (hX : va_X b L xs s s.heap) (hbl : b < s.heap.size) (hbA : ¬ A b) {x4 : Int32} (hi1 : vp_in (x4 + 1) L) (hi2 : vp_in (x4 + 2) L) (hi3 : vp_in (x4 + 3) L) (hi4 : vp_in (x4 + 4) L) (hi5 : vp_in (x4 + 5) L) (hcs : cells + 2 ≤ 601024 ∧ slots + 12 ≤ 7293034) (hS : Sim tx ps nm v vn hs ww z)
    (kk : ∀ (tx : Nat → Nat → Int32) (ps : Nat → Nat → Int32) (nm : Nat → Int64) (v : Nat → Nat → Int32) (vn : Nat → Int64) (hs : Nat → Nat → Int32) (ww : Nat → Nat → Nat → Int32) (out : Nat → Int64) (z : Nat → Nat → Int32) (H : Heap) (locs : List Loc) (ls : Array Slot), Sim tx ps nm v vn hs ww z → Rg D T A s (gL T aF aR aD aP aH aW aO aM tx ps nm v vn hs ww out z) H locs → lv_has ls 9 [(4, .int x4), (3, .ref aO), (2, .ref (aM 0)), (1, .ref (aF 0)), (0, .ref b)] → W p l e room_1 s m args below meth c H locs (cells + 0) (slots + 0) Q (F0 m 1909 ls []))
    (G : Rg D T A s (gL T aF aR aD aP aH aW aO aM tx ps nm v vn hs ww out z) H locs) (hl : lv_has ls 9 [(4, .int x4), (3, .ref aO), (2, .ref (aM 0)), (1, .ref (aF 0)), (0, .ref b)]) : W p l e room_1 s m args below meth c H locs cells slots Q (F0 m 1136 ls []) := by
  refine lv_aload_n F.1 F.2.1 dL_law_1136 rfl (lv_at hl 3 rfl) ?_
  obtain ⟨r, wwR, b', zR, h1, h2, hd, hSR⟩ := Hs tx ps nm v vn hs ww z hS
  refine k_callVR (rv := (some (.int r))) (Wc := gU T aF aR aD aP aH aW tx ps nm v vn hs ww) (W2 := gU T aF aR aD aP aH aW tx ps nm v vn hs wwR) (Wn := gL T aF aR aD aP aH aW aO aM tx ps nm v vn hs wwR out z) (As := []) (rest := []) F G (mX10_grants l D T aF aR aD aP aH aW tx ps nm v vn hs ww h1) (cwV 0 hAL (kgL_c kLl188 (kgL_c kLl189 (kgL_c kLl190 (kgL_c (kA kl80) (kgL_c (kA kl706) kgL_k))))) rfl rfl rfl (by decide +kernel) ⟨Nat.le_of_ble_eq_true rfl, Nat.le_of_ble_eq_true rfl⟩) (kg_recv G 2 0 (by decide) rfl (q := (RX10, TX10, 6)) rfl) (kCut_LU G) rfl hl.1 rfl (Nat.le_of_ble_eq_true rfl) dL_law_1137 ⟨kroom1 hcs.1 (Nat.le_of_ble_eq_true rfl), kroom1 hcs.2 (Nat.le_of_ble_eq_true rfl)⟩ (cN := cells) (sN := slots) ⟨rfl, rfl⟩ (fun H locs G => ?_)
  obtain rfl := hd
  refine lv_aload_n F.1 F.2.1 dL_law_1140 rfl (lv_at hl 2 rfl) ?_
  refine k_callVR (rv := _) (Wc := gM T aM z) (W2 := gM T aM zR) (Wn := gL T aF aR aD aP aH aW aO aM tx ps nm v vn hs wwR out zR) (As := []) (rest := [.int r]) F G (mX11_grants l D T aM z h2) (cwV 0 hAL (kgL_c kLl191 (kgL_c kLl192 (kgL_c kLl193 (kgL_c (kA kl788) (kgL_c (kA kl1004) kgL_k))))) rfl rfl rfl (by decide +kernel) ⟨Nat.le_of_ble_eq_true rfl, Nat.le_of_ble_eq_true rfl⟩) (kg_recv G 0 0 (by decide) rfl (q := (RX11, TX11, 35)) rfl) (kCut_LM G) rfl hl.1 rfl (Nat.le_of_ble_eq_true rfl) dL_law_1141 ⟨kroom1 hcs.1 (Nat.le_of_ble_eq_true rfl), kroom1 hcs.2 (Nat.le_of_ble_eq_true rfl)⟩ (cN := cells + 0) (sN := slots + 0) ⟨rfl, rfl⟩ (fun H locs G => ?_)
  have hS := hSR
  refine lv_icmp_eq (tgt := 1909) F.1 F.2.1 dL_law_1144 (by decide) (fun c => ?_) (fun c => absurd rfl c)
  exact kk tx ps nm v vn hs wwR out zR _ _ _ hS G hl
set_option maxHeartbeats 8000000 in
set_option maxRecDepth 100000 in
theorem lc_why {Sim : (Nat → Nat → Int32) → (Nat → Nat → Int32) → (Nat → Int64) → (Nat → Nat → Int32) → (Nat → Int64) → (Nat → Nat → Int32) → (Nat → Nat → Nat → Int32) → (Nat → Nat → Int32) → Prop} (Hs : St_why Sim) (hst : l.stackTraces = false) (F : CallFix p m c code 9 s args kAll RL) (hAL : ∀ w ∈ kAL, w.before args s = true) (hr : meth.sig.returnType = ret) (hlk : meth.locks = false) (hX : va_X b L xs s s.heap) (hbl : b < s.heap.size) (hbA : ¬ A b) {x4 : Int32} (hi1 : vp_in (x4 + 1) L) (hi2 : vp_in (x4 + 2) L) (hi3 : vp_in (x4 + 3) L) (hi4 : vp_in (x4 + 4) L) (hi5 : vp_in (x4 + 5) L) (hcs : cells + 2 ≤ 601024 ∧ slots + 12 ≤ 7293034) (hS : Sim tx ps nm v vn hs ww z)
    (kk : ∀ (tx : Nat → Nat → Int32) (ps : Nat → Nat → Int32) (nm : Nat → Int64) (v : Nat → Nat → Int32) (vn : Nat → Int64) (hs : Nat → Nat → Int32) (ww : Nat → Nat → Nat → Int32) (out : Nat → Int64) (z : Nat → Nat → Int32) (H : Heap) (locs : List Loc) (ls : Array Slot), Sim tx ps nm v vn hs ww z → Rg D T A s (gL T aF aR aD aP aH aW aO aM tx ps nm v vn hs ww out z) H locs → lv_has ls 9 [(4, .int x4), (3, .ref aO), (2, .ref (aM 0)), (1, .ref (aF 0)), (0, .ref b)] → W p l e room_1 s m args below meth c H locs (cells + 1) (slots + 6) Q (F0 m 1909 ls []))
    (G : Rg D T A s (gL T aF aR aD aP aH aW aO aM tx ps nm v vn hs ww out z) H locs) (hl : lv_has ls 9 [(4, .int x4), (3, .ref aO), (2, .ref (aM 0)), (1, .ref (aF 0)), (0, .ref b)]) : W p l e room_1 s m args below meth c H locs cells slots Q (F0 m 1149 ls []) := by
  refine lv_aload_n F.1 F.2.1 dL_law_1149 rfl (lv_at hl 3 rfl) ?_
  refine lv_aload_n F.1 F.2.1 dL_law_1150 rfl (lv_at hl 4 rfl) ?_
  refine lv_iload F.1 F.2.1 dL_law_1151 (lv_at hl 0 rfl) ?_
  refine lv_iconst (v := 1) F.1 F.2.1 dL_law_1153 (by decide) ?_
  refine lv_iadd F.1 F.2.1 dL_law_1154 ?_
  refine va_sld F.1 F.2.1 hX hbl hbA G.2.2.2.1 hi1 dL_law_1155 ?_
  refine lv_aload_n F.1 F.2.1 dL_law_1156 rfl (lv_at hl 1 rfl) ?_
  obtain ⟨e, r, wwR, b', zR, h1, h2, hd, hSR⟩ := Hs tx ps nm v vn hs ww z hS (xs (x4 + 1).toNatClampNeg)
  rcases hd with ⟨rfl, hz, rfl⟩ | ⟨rfl, hz⟩
  · have hthr : zR 0 0 = 0 := hz
    refine kl_callSW (rv := some (.int 0)) (Wc := gO T aF aR aD aP aH aW aO tx ps nm v vn hs ww out) (W2 := gO T aF aR aD aP aH aW aO tx ps nm v vn hs wwR (vp_updL out 0 r.toInt64)) (Wn := gL T aF aR aD aP aH aW aO aM tx ps nm v vn hs wwR (vp_updL out 0 r.toInt64) z) (As := [.ref (aF 0), .int (xs (x4 + 1).toNatClampNeg), .ref aO]) (rest := []) F G (mL_why l hst D T aF aR aD aP aH aW aO tx ps nm v vn hs ww out (xs (x4 + 1).toNatClampNeg) (k := 0) (outR := (vp_updL out 0 r.toInt64)) h1 (Or.inl ⟨rfl, rfl, rfl⟩)) (vx_cwSW 3 hAL (kgL_c kLl194 (kgL_c kLl195 (kgL_c kLl84 (kgL_c kLl196 kgL_a)))) rfl rfl rfl (by decide +kernel) ⟨Nat.le_of_ble_eq_true rfl, Nat.le_of_ble_eq_true rfl⟩) (kCut_LO G) rfl hl.1 rfl (Nat.le_of_ble_eq_true rfl) dL_law_1157 ⟨kroom1 hcs.1 (Nat.le_of_ble_eq_true rfl), kroom1 hcs.2 (Nat.le_of_ble_eq_true rfl)⟩ (cN := cells + 1) (sN := slots + 6) ⟨rfl, rfl⟩ (fun H locs G => ?_)
    have hcmp : lg_cmp ((vp_updL out 0 r.toInt64) (0 : Int32).toNatClampNeg) r.toInt64 = 0 := lg_same _ _
    refine lv_istore (lv' := [(5, .int 0), (4, .int x4), (3, .ref aO), (2, .ref (aM 0)), (1, .ref (aF 0)), (0, .ref b)]) F.1 F.2.1 dL_law_1160 hl (by decide) rfl (fun ls hl => ?_)
    refine lv_aload_n F.1 F.2.1 dL_law_1162 rfl (lv_at hl 3 rfl) ?_
    refine lv_aload_n F.1 F.2.1 dL_law_1163 rfl (lv_at hl 5 rfl) ?_
    refine lv_iload F.1 F.2.1 dL_law_1164 (lv_at hl 1 rfl) ?_
    refine lv_iconst (v := 1) F.1 F.2.1 dL_law_1166 (by decide) ?_
    refine lv_iadd F.1 F.2.1 dL_law_1167 ?_
    refine va_sld F.1 F.2.1 hX hbl hbA G.2.2.2.1 hi1 dL_law_1168 ?_
    refine k_callVR (rv := _) (Wc := gM T aM z) (W2 := gM T aM zR) (Wn := gL T aF aR aD aP aH aW aO aM tx ps nm v vn hs wwR (vp_updL out 0 r.toInt64) zR) (As := [.int (xs (x4 + 1).toNatClampNeg)]) (rest := []) F G (mX11_why l D T aM z (xs (x4 + 1).toNatClampNeg) h2) (cwV 1 hAL (kgL_c kLl197 (kgL_c kLl198 (kgL_c kLl199 (kgL_c (kA kl788) (kgL_c (kA kl1005) kgL_k))))) rfl rfl rfl (by decide +kernel) ⟨Nat.le_of_ble_eq_true rfl, Nat.le_of_ble_eq_true rfl⟩) (kg_recv G 0 0 (by decide) rfl (q := (RX11, TX11, 35)) rfl) (kCut_LM G) rfl hl.1 rfl (Nat.le_of_ble_eq_true rfl) dL_law_1169 ⟨kroom2 hcs.1 (Nat.le_of_ble_eq_true rfl), kroom2 hcs.2 (Nat.le_of_ble_eq_true rfl)⟩ (cN := cells + 1) (sN := slots + 6) ⟨rfl, rfl⟩ (fun H locs G => ?_)
    have hS := hSR
    refine lv_istore (lv' := [(6, .int r), (5, .int 0), (4, .int x4), (3, .ref aO), (2, .ref (aM 0)), (1, .ref (aF 0)), (0, .ref b)]) F.1 F.2.1 dL_law_1172 hl (by decide) rfl (fun ls hl => ?_)
    refine lv_aload_n F.1 F.2.1 dL_law_1174 rfl (lv_at hl 4 rfl) ?_
    refine k_callVR (rv := (some (.int (zR 0 0)))) (Wc := gM T aM zR) (W2 := gM T aM zR) (Wn := gL T aF aR aD aP aH aW aO aM tx ps nm v vn hs wwR (vp_updL out 0 r.toInt64) zR) (As := []) (rest := []) F G (mX11_thrown l D T aM zR rfl) (cwV 0 hAL (kgL_c kLl89 (kgL_c kLl90 (kgL_c kLl91 (kgL_c (kA kl788) (kgL_c (kA kl803) kgL_k))))) rfl rfl rfl (by decide +kernel) ⟨Nat.le_of_ble_eq_true rfl, Nat.le_of_ble_eq_true rfl⟩) (kg_recv G 0 0 (by decide) rfl (q := (RX11, TX11, 35)) rfl) (kCut_LM G) rfl hl.1 rfl (Nat.le_of_ble_eq_true rfl) dL_law_1175 ⟨kroom2 hcs.1 (Nat.le_of_ble_eq_true rfl), kroom2 hcs.2 (Nat.le_of_ble_eq_true rfl)⟩ (cN := cells + 1) (sN := slots + 6) ⟨rfl, rfl⟩ (fun H locs G => ?_)
    refine lv_iload F.1 F.2.1 dL_law_1178 (lv_at hl 1 rfl) ?_
    refine lv_icmp_eq (tgt := 1185) F.1 F.2.1 dL_law_1180 (by decide) (fun c => ?_) (fun c => absurd hthr c)
    refine lv_iload F.1 F.2.1 dL_law_1185 (lv_at hl 1 rfl) ?_
    refine lv_if_ne (tgt := 1202) F.1 F.2.1 dL_law_1187 (by decide) (fun c => absurd (by decide) c) (fun c => ?_)
    refine lv_aload_n F.1 F.2.1 dL_law_1190 rfl (lv_at hl 3 rfl) ?_
    refine lv_iconst (v := 0) F.1 F.2.1 dL_law_1191 (by decide) ?_
    refine kg_lald F G 1 0 (by decide) rfl (i := 0) (kin (by decide +kernel)) dL_law_1192 ?_
    refine lv_iload F.1 F.2.1 dL_law_1193 (lv_at hl 0 rfl) ?_
    refine lv_i2l (v := r.toInt64) F.1 F.2.1 dL_law_1195 rfl ?_
    refine W.lcmp F.1 F.2.1 dL_law_1196 ?_
    refine lv_if_eq (tgt := 1202) F.1 F.2.1 dL_law_1197 (by decide) (fun c => ?_) (fun c => absurd hcmp c)
    refine lv_goto (tgt := 1909) F.1 F.2.1 dL_law_1202 (by decide) ?_
    exact kk tx ps nm v vn hs wwR (vp_updL out 0 r.toInt64) zR _ _ _ hS G (lv_sub hl [2, 3, 4, 5, 6] rfl)
  · have hthr : zR 0 0 = 1 := hz
    refine kl_callSW (rv := some (.int 1)) (Wc := gO T aF aR aD aP aH aW aO tx ps nm v vn hs ww out) (W2 := gO T aF aR aD aP aH aW aO tx ps nm v vn hs wwR out) (Wn := gL T aF aR aD aP aH aW aO aM tx ps nm v vn hs wwR out z) (As := [.ref (aF 0), .int (xs (x4 + 1).toNatClampNeg), .ref aO]) (rest := []) F G (mL_why l hst D T aF aR aD aP aH aW aO tx ps nm v vn hs ww out (xs (x4 + 1).toNatClampNeg) (k := 1) (outR := out) h1 (Or.inr ⟨rfl, rfl, rfl⟩)) (vx_cwSW 3 hAL (kgL_c kLl194 (kgL_c kLl195 (kgL_c kLl84 (kgL_c kLl196 kgL_a)))) rfl rfl rfl (by decide +kernel) ⟨Nat.le_of_ble_eq_true rfl, Nat.le_of_ble_eq_true rfl⟩) (kCut_LO G) rfl hl.1 rfl (Nat.le_of_ble_eq_true rfl) dL_law_1157 ⟨kroom1 hcs.1 (Nat.le_of_ble_eq_true rfl), kroom1 hcs.2 (Nat.le_of_ble_eq_true rfl)⟩ (cN := cells + 1) (sN := slots + 6) ⟨rfl, rfl⟩ (fun H locs G => ?_)
    refine lv_istore (lv' := [(5, .int 1), (4, .int x4), (3, .ref aO), (2, .ref (aM 0)), (1, .ref (aF 0)), (0, .ref b)]) F.1 F.2.1 dL_law_1160 hl (by decide) rfl (fun ls hl => ?_)
    refine lv_aload_n F.1 F.2.1 dL_law_1162 rfl (lv_at hl 3 rfl) ?_
    refine lv_aload_n F.1 F.2.1 dL_law_1163 rfl (lv_at hl 5 rfl) ?_
    refine lv_iload F.1 F.2.1 dL_law_1164 (lv_at hl 1 rfl) ?_
    refine lv_iconst (v := 1) F.1 F.2.1 dL_law_1166 (by decide) ?_
    refine lv_iadd F.1 F.2.1 dL_law_1167 ?_
    refine va_sld F.1 F.2.1 hX hbl hbA G.2.2.2.1 hi1 dL_law_1168 ?_
    refine k_callVR (rv := _) (Wc := gM T aM z) (W2 := gM T aM zR) (Wn := gL T aF aR aD aP aH aW aO aM tx ps nm v vn hs wwR out zR) (As := [.int (xs (x4 + 1).toNatClampNeg)]) (rest := []) F G (mX11_why l D T aM z (xs (x4 + 1).toNatClampNeg) h2) (cwV 1 hAL (kgL_c kLl197 (kgL_c kLl198 (kgL_c kLl199 (kgL_c (kA kl788) (kgL_c (kA kl1005) kgL_k))))) rfl rfl rfl (by decide +kernel) ⟨Nat.le_of_ble_eq_true rfl, Nat.le_of_ble_eq_true rfl⟩) (kg_recv G 0 0 (by decide) rfl (q := (RX11, TX11, 35)) rfl) (kCut_LM G) rfl hl.1 rfl (Nat.le_of_ble_eq_true rfl) dL_law_1169 ⟨kroom2 hcs.1 (Nat.le_of_ble_eq_true rfl), kroom2 hcs.2 (Nat.le_of_ble_eq_true rfl)⟩ (cN := cells + 1) (sN := slots + 6) ⟨rfl, rfl⟩ (fun H locs G => ?_)
    have hS := hSR
    refine lv_istore (lv' := [(6, .int b'), (5, .int 1), (4, .int x4), (3, .ref aO), (2, .ref (aM 0)), (1, .ref (aF 0)), (0, .ref b)]) F.1 F.2.1 dL_law_1172 hl (by decide) rfl (fun ls hl => ?_)
    refine lv_aload_n F.1 F.2.1 dL_law_1174 rfl (lv_at hl 4 rfl) ?_
    refine k_callVR (rv := (some (.int (zR 0 0)))) (Wc := gM T aM zR) (W2 := gM T aM zR) (Wn := gL T aF aR aD aP aH aW aO aM tx ps nm v vn hs wwR out zR) (As := []) (rest := []) F G (mX11_thrown l D T aM zR rfl) (cwV 0 hAL (kgL_c kLl89 (kgL_c kLl90 (kgL_c kLl91 (kgL_c (kA kl788) (kgL_c (kA kl803) kgL_k))))) rfl rfl rfl (by decide +kernel) ⟨Nat.le_of_ble_eq_true rfl, Nat.le_of_ble_eq_true rfl⟩) (kg_recv G 0 0 (by decide) rfl (q := (RX11, TX11, 35)) rfl) (kCut_LM G) rfl hl.1 rfl (Nat.le_of_ble_eq_true rfl) dL_law_1175 ⟨kroom2 hcs.1 (Nat.le_of_ble_eq_true rfl), kroom2 hcs.2 (Nat.le_of_ble_eq_true rfl)⟩ (cN := cells + 1) (sN := slots + 6) ⟨rfl, rfl⟩ (fun H locs G => ?_)
    refine lv_iload F.1 F.2.1 dL_law_1178 (lv_at hl 1 rfl) ?_
    refine lv_icmp_eq (tgt := 1185) F.1 F.2.1 dL_law_1180 (by decide) (fun c => ?_) (fun c => absurd hthr c)
    refine lv_iload F.1 F.2.1 dL_law_1185 (lv_at hl 1 rfl) ?_
    refine lv_if_ne (tgt := 1202) F.1 F.2.1 dL_law_1187 (by decide) (fun c => ?_) (fun c => absurd c (by decide))
    refine lv_goto (tgt := 1909) F.1 F.2.1 dL_law_1202 (by decide) ?_
    exact kk tx ps nm v vn hs wwR out zR _ _ _ hS G (lv_sub hl [2, 3, 4, 5, 6] rfl)
set_option maxHeartbeats 8000000 in
set_option maxRecDepth 100000 in
theorem lc_runsIn {Sim : (Nat → Nat → Int32) → (Nat → Nat → Int32) → (Nat → Int64) → (Nat → Nat → Int32) → (Nat → Int64) → (Nat → Nat → Int32) → (Nat → Nat → Nat → Int32) → (Nat → Nat → Int32) → Prop} (Hs : St_runsIn Sim) (hst : l.stackTraces = false) (F : CallFix p m c code 9 s args kAll RL) (hAL : ∀ w ∈ kAL, w.before args s = true) (hr : meth.sig.returnType = ret) (hlk : meth.locks = false) (hX : va_X b L xs s s.heap) (hbl : b < s.heap.size) (hbA : ¬ A b) {x4 : Int32} (hi1 : vp_in (x4 + 1) L) (hi2 : vp_in (x4 + 2) L) (hi3 : vp_in (x4 + 3) L) (hi4 : vp_in (x4 + 4) L) (hi5 : vp_in (x4 + 5) L) (hcs : cells + 2 ≤ 601024 ∧ slots + 12 ≤ 7293034) (hS : Sim tx ps nm v vn hs ww z)
    (kk : ∀ (tx : Nat → Nat → Int32) (ps : Nat → Nat → Int32) (nm : Nat → Int64) (v : Nat → Nat → Int32) (vn : Nat → Int64) (hs : Nat → Nat → Int32) (ww : Nat → Nat → Nat → Int32) (out : Nat → Int64) (z : Nat → Nat → Int32) (H : Heap) (locs : List Loc) (ls : Array Slot), Sim tx ps nm v vn hs ww z → Rg D T A s (gL T aF aR aD aP aH aW aO aM tx ps nm v vn hs ww out z) H locs → lv_has ls 9 [(4, .int x4), (3, .ref aO), (2, .ref (aM 0)), (1, .ref (aF 0)), (0, .ref b)] → W p l e room_1 s m args below meth c H locs (cells + 2) (slots + 12) Q (F0 m 1909 ls []))
    (G : Rg D T A s (gL T aF aR aD aP aH aW aO aM tx ps nm v vn hs ww out z) H locs) (hl : lv_has ls 9 [(4, .int x4), (3, .ref aO), (2, .ref (aM 0)), (1, .ref (aF 0)), (0, .ref b)]) : W p l e room_1 s m args below meth c H locs cells slots Q (F0 m 1205 ls []) := by
  refine lv_aload_n F.1 F.2.1 dL_law_1205 rfl (lv_at hl 3 rfl) ?_
  refine lv_aload_n F.1 F.2.1 dL_law_1206 rfl (lv_at hl 4 rfl) ?_
  refine lv_iload F.1 F.2.1 dL_law_1207 (lv_at hl 0 rfl) ?_
  refine lv_iconst (v := 1) F.1 F.2.1 dL_law_1209 (by decide) ?_
  refine lv_iadd F.1 F.2.1 dL_law_1210 ?_
  refine va_sld F.1 F.2.1 hX hbl hbA G.2.2.2.1 hi1 dL_law_1211 ?_
  refine lv_aload_n F.1 F.2.1 dL_law_1212 rfl (lv_at hl 1 rfl) ?_
  obtain ⟨e, r, wwR, b', zR, h1, h2, hd, hSR⟩ := Hs tx ps nm v vn hs ww z hS (xs (x4 + 1).toNatClampNeg)
  rcases hd with ⟨rfl, hz, rfl⟩ | ⟨rfl, hz⟩ | ⟨rfl, hz⟩
  · have hthr : zR 0 0 = 0 := hz
    refine kl_callSW (rv := some (.int 0)) (Wc := gO T aF aR aD aP aH aW aO tx ps nm v vn hs ww out) (W2 := gO T aF aR aD aP aH aW aO tx ps nm v vn hs wwR (vp_updL out 0 r.toInt64)) (Wn := gL T aF aR aD aP aH aW aO aM tx ps nm v vn hs wwR (vp_updL out 0 r.toInt64) z) (As := [.ref (aF 0), .int (xs (x4 + 1).toNatClampNeg), .ref aO]) (rest := []) F G (mL_runsIn l hst D T aF aR aD aP aH aW aO tx ps nm v vn hs ww out (xs (x4 + 1).toNatClampNeg) (k := 0) (outR := (vp_updL out 0 r.toInt64)) h1 (Or.inl ⟨rfl, rfl, rfl⟩)) (vx_cwSW 3 hAL (kgL_c kLl200 (kgL_c kLl201 (kgL_c kLl84 (kgL_c kLl202 kgL_a)))) rfl rfl rfl (by decide +kernel) ⟨Nat.le_of_ble_eq_true rfl, Nat.le_of_ble_eq_true rfl⟩) (kCut_LO G) rfl hl.1 rfl (Nat.le_of_ble_eq_true rfl) dL_law_1213 ⟨kroom1 hcs.1 (Nat.le_of_ble_eq_true rfl), kroom1 hcs.2 (Nat.le_of_ble_eq_true rfl)⟩ (cN := cells + 2) (sN := slots + 12) ⟨rfl, rfl⟩ (fun H locs G => ?_)
    have hcmp : lg_cmp ((vp_updL out 0 r.toInt64) (0 : Int32).toNatClampNeg) r.toInt64 = 0 := lg_same _ _
    refine lv_istore (lv' := [(5, .int 0), (4, .int x4), (3, .ref aO), (2, .ref (aM 0)), (1, .ref (aF 0)), (0, .ref b)]) F.1 F.2.1 dL_law_1216 hl (by decide) rfl (fun ls hl => ?_)
    refine lv_aload_n F.1 F.2.1 dL_law_1218 rfl (lv_at hl 3 rfl) ?_
    refine lv_aload_n F.1 F.2.1 dL_law_1219 rfl (lv_at hl 5 rfl) ?_
    refine lv_iload F.1 F.2.1 dL_law_1220 (lv_at hl 1 rfl) ?_
    refine lv_iconst (v := 1) F.1 F.2.1 dL_law_1222 (by decide) ?_
    refine lv_iadd F.1 F.2.1 dL_law_1223 ?_
    refine va_sld F.1 F.2.1 hX hbl hbA G.2.2.2.1 hi1 dL_law_1224 ?_
    refine k_callVR (rv := _) (Wc := gM T aM z) (W2 := gM T aM zR) (Wn := gL T aF aR aD aP aH aW aO aM tx ps nm v vn hs wwR (vp_updL out 0 r.toInt64) zR) (As := [.int (xs (x4 + 1).toNatClampNeg)]) (rest := []) F G (mX11_runsIn l D T aM z (xs (x4 + 1).toNatClampNeg) h2) (cwV 1 hAL (kgL_c kLl203 (kgL_c kLl204 (kgL_c kLl205 (kgL_c (kA kl788) (kgL_c (kA kl1011) kgL_k))))) rfl rfl rfl (by decide +kernel) ⟨Nat.le_of_ble_eq_true rfl, Nat.le_of_ble_eq_true rfl⟩) (kg_recv G 0 0 (by decide) rfl (q := (RX11, TX11, 35)) rfl) (kCut_LM G) rfl hl.1 rfl (Nat.le_of_ble_eq_true rfl) dL_law_1225 ⟨kroom2 hcs.1 (Nat.le_of_ble_eq_true rfl), kroom2 hcs.2 (Nat.le_of_ble_eq_true rfl)⟩ (cN := cells + 2) (sN := slots + 12) ⟨rfl, rfl⟩ (fun H locs G => ?_)
    have hS := hSR
    refine lv_istore (lv' := [(6, .int r), (5, .int 0), (4, .int x4), (3, .ref aO), (2, .ref (aM 0)), (1, .ref (aF 0)), (0, .ref b)]) F.1 F.2.1 dL_law_1228 hl (by decide) rfl (fun ls hl => ?_)
    refine lv_aload_n F.1 F.2.1 dL_law_1230 rfl (lv_at hl 4 rfl) ?_
    refine k_callVR (rv := (some (.int (zR 0 0)))) (Wc := gM T aM zR) (W2 := gM T aM zR) (Wn := gL T aF aR aD aP aH aW aO aM tx ps nm v vn hs wwR (vp_updL out 0 r.toInt64) zR) (As := []) (rest := []) F G (mX11_thrown l D T aM zR rfl) (cwV 0 hAL (kgL_c kLl89 (kgL_c kLl90 (kgL_c kLl91 (kgL_c (kA kl788) (kgL_c (kA kl803) kgL_k))))) rfl rfl rfl (by decide +kernel) ⟨Nat.le_of_ble_eq_true rfl, Nat.le_of_ble_eq_true rfl⟩) (kg_recv G 0 0 (by decide) rfl (q := (RX11, TX11, 35)) rfl) (kCut_LM G) rfl hl.1 rfl (Nat.le_of_ble_eq_true rfl) dL_law_1231 ⟨kroom2 hcs.1 (Nat.le_of_ble_eq_true rfl), kroom2 hcs.2 (Nat.le_of_ble_eq_true rfl)⟩ (cN := cells + 2) (sN := slots + 12) ⟨rfl, rfl⟩ (fun H locs G => ?_)
    refine lv_iload F.1 F.2.1 dL_law_1234 (lv_at hl 1 rfl) ?_
    refine lv_icmp_eq (tgt := 1241) F.1 F.2.1 dL_law_1236 (by decide) (fun c => ?_) (fun c => absurd hthr c)
    refine lv_iload F.1 F.2.1 dL_law_1241 (lv_at hl 1 rfl) ?_
    refine lv_if_ne (tgt := 1258) F.1 F.2.1 dL_law_1243 (by decide) (fun c => absurd (by decide) c) (fun c => ?_)
    refine lv_aload_n F.1 F.2.1 dL_law_1246 rfl (lv_at hl 3 rfl) ?_
    refine lv_iconst (v := 0) F.1 F.2.1 dL_law_1247 (by decide) ?_
    refine kg_lald F G 1 0 (by decide) rfl (i := 0) (kin (by decide +kernel)) dL_law_1248 ?_
    refine lv_iload F.1 F.2.1 dL_law_1249 (lv_at hl 0 rfl) ?_
    refine lv_i2l (v := r.toInt64) F.1 F.2.1 dL_law_1251 rfl ?_
    refine W.lcmp F.1 F.2.1 dL_law_1252 ?_
    refine lv_if_eq (tgt := 1258) F.1 F.2.1 dL_law_1253 (by decide) (fun c => ?_) (fun c => absurd hcmp c)
    refine lv_goto (tgt := 1909) F.1 F.2.1 dL_law_1258 (by decide) ?_
    exact kk tx ps nm v vn hs wwR (vp_updL out 0 r.toInt64) zR _ _ _ hS G (lv_sub hl [2, 3, 4, 5, 6] rfl)
  · have hthr : zR 0 0 = 1 := hz
    refine kl_callSW (rv := some (.int 1)) (Wc := gO T aF aR aD aP aH aW aO tx ps nm v vn hs ww out) (W2 := gO T aF aR aD aP aH aW aO tx ps nm v vn hs wwR out) (Wn := gL T aF aR aD aP aH aW aO aM tx ps nm v vn hs wwR out z) (As := [.ref (aF 0), .int (xs (x4 + 1).toNatClampNeg), .ref aO]) (rest := []) F G (mL_runsIn l hst D T aF aR aD aP aH aW aO tx ps nm v vn hs ww out (xs (x4 + 1).toNatClampNeg) (k := 1) (outR := out) h1 (Or.inr (Or.inl ⟨rfl, rfl, rfl⟩))) (vx_cwSW 3 hAL (kgL_c kLl200 (kgL_c kLl201 (kgL_c kLl84 (kgL_c kLl202 kgL_a)))) rfl rfl rfl (by decide +kernel) ⟨Nat.le_of_ble_eq_true rfl, Nat.le_of_ble_eq_true rfl⟩) (kCut_LO G) rfl hl.1 rfl (Nat.le_of_ble_eq_true rfl) dL_law_1213 ⟨kroom1 hcs.1 (Nat.le_of_ble_eq_true rfl), kroom1 hcs.2 (Nat.le_of_ble_eq_true rfl)⟩ (cN := cells + 2) (sN := slots + 12) ⟨rfl, rfl⟩ (fun H locs G => ?_)
    refine lv_istore (lv' := [(5, .int 1), (4, .int x4), (3, .ref aO), (2, .ref (aM 0)), (1, .ref (aF 0)), (0, .ref b)]) F.1 F.2.1 dL_law_1216 hl (by decide) rfl (fun ls hl => ?_)
    refine lv_aload_n F.1 F.2.1 dL_law_1218 rfl (lv_at hl 3 rfl) ?_
    refine lv_aload_n F.1 F.2.1 dL_law_1219 rfl (lv_at hl 5 rfl) ?_
    refine lv_iload F.1 F.2.1 dL_law_1220 (lv_at hl 1 rfl) ?_
    refine lv_iconst (v := 1) F.1 F.2.1 dL_law_1222 (by decide) ?_
    refine lv_iadd F.1 F.2.1 dL_law_1223 ?_
    refine va_sld F.1 F.2.1 hX hbl hbA G.2.2.2.1 hi1 dL_law_1224 ?_
    refine k_callVR (rv := _) (Wc := gM T aM z) (W2 := gM T aM zR) (Wn := gL T aF aR aD aP aH aW aO aM tx ps nm v vn hs wwR out zR) (As := [.int (xs (x4 + 1).toNatClampNeg)]) (rest := []) F G (mX11_runsIn l D T aM z (xs (x4 + 1).toNatClampNeg) h2) (cwV 1 hAL (kgL_c kLl203 (kgL_c kLl204 (kgL_c kLl205 (kgL_c (kA kl788) (kgL_c (kA kl1011) kgL_k))))) rfl rfl rfl (by decide +kernel) ⟨Nat.le_of_ble_eq_true rfl, Nat.le_of_ble_eq_true rfl⟩) (kg_recv G 0 0 (by decide) rfl (q := (RX11, TX11, 35)) rfl) (kCut_LM G) rfl hl.1 rfl (Nat.le_of_ble_eq_true rfl) dL_law_1225 ⟨kroom2 hcs.1 (Nat.le_of_ble_eq_true rfl), kroom2 hcs.2 (Nat.le_of_ble_eq_true rfl)⟩ (cN := cells + 2) (sN := slots + 12) ⟨rfl, rfl⟩ (fun H locs G => ?_)
    have hS := hSR
    refine lv_istore (lv' := [(6, .int b'), (5, .int 1), (4, .int x4), (3, .ref aO), (2, .ref (aM 0)), (1, .ref (aF 0)), (0, .ref b)]) F.1 F.2.1 dL_law_1228 hl (by decide) rfl (fun ls hl => ?_)
    refine lv_aload_n F.1 F.2.1 dL_law_1230 rfl (lv_at hl 4 rfl) ?_
    refine k_callVR (rv := (some (.int (zR 0 0)))) (Wc := gM T aM zR) (W2 := gM T aM zR) (Wn := gL T aF aR aD aP aH aW aO aM tx ps nm v vn hs wwR out zR) (As := []) (rest := []) F G (mX11_thrown l D T aM zR rfl) (cwV 0 hAL (kgL_c kLl89 (kgL_c kLl90 (kgL_c kLl91 (kgL_c (kA kl788) (kgL_c (kA kl803) kgL_k))))) rfl rfl rfl (by decide +kernel) ⟨Nat.le_of_ble_eq_true rfl, Nat.le_of_ble_eq_true rfl⟩) (kg_recv G 0 0 (by decide) rfl (q := (RX11, TX11, 35)) rfl) (kCut_LM G) rfl hl.1 rfl (Nat.le_of_ble_eq_true rfl) dL_law_1231 ⟨kroom2 hcs.1 (Nat.le_of_ble_eq_true rfl), kroom2 hcs.2 (Nat.le_of_ble_eq_true rfl)⟩ (cN := cells + 2) (sN := slots + 12) ⟨rfl, rfl⟩ (fun H locs G => ?_)
    refine lv_iload F.1 F.2.1 dL_law_1234 (lv_at hl 1 rfl) ?_
    refine lv_icmp_eq (tgt := 1241) F.1 F.2.1 dL_law_1236 (by decide) (fun c => ?_) (fun c => absurd hthr c)
    refine lv_iload F.1 F.2.1 dL_law_1241 (lv_at hl 1 rfl) ?_
    refine lv_if_ne (tgt := 1258) F.1 F.2.1 dL_law_1243 (by decide) (fun c => ?_) (fun c => absurd c (by decide))
    refine lv_goto (tgt := 1909) F.1 F.2.1 dL_law_1258 (by decide) ?_
    exact kk tx ps nm v vn hs wwR out zR _ _ _ hS G (lv_sub hl [2, 3, 4, 5, 6] rfl)
  · have hthr : zR 0 0 = 2 := hz
    refine kl_callSW (rv := some (.int 2)) (Wc := gO T aF aR aD aP aH aW aO tx ps nm v vn hs ww out) (W2 := gO T aF aR aD aP aH aW aO tx ps nm v vn hs wwR out) (Wn := gL T aF aR aD aP aH aW aO aM tx ps nm v vn hs wwR out z) (As := [.ref (aF 0), .int (xs (x4 + 1).toNatClampNeg), .ref aO]) (rest := []) F G (mL_runsIn l hst D T aF aR aD aP aH aW aO tx ps nm v vn hs ww out (xs (x4 + 1).toNatClampNeg) (k := 2) (outR := out) h1 (Or.inr (Or.inr ⟨rfl, rfl, rfl⟩))) (vx_cwSW 3 hAL (kgL_c kLl200 (kgL_c kLl201 (kgL_c kLl84 (kgL_c kLl202 kgL_a)))) rfl rfl rfl (by decide +kernel) ⟨Nat.le_of_ble_eq_true rfl, Nat.le_of_ble_eq_true rfl⟩) (kCut_LO G) rfl hl.1 rfl (Nat.le_of_ble_eq_true rfl) dL_law_1213 ⟨kroom1 hcs.1 (Nat.le_of_ble_eq_true rfl), kroom1 hcs.2 (Nat.le_of_ble_eq_true rfl)⟩ (cN := cells + 2) (sN := slots + 12) ⟨rfl, rfl⟩ (fun H locs G => ?_)
    refine lv_istore (lv' := [(5, .int 2), (4, .int x4), (3, .ref aO), (2, .ref (aM 0)), (1, .ref (aF 0)), (0, .ref b)]) F.1 F.2.1 dL_law_1216 hl (by decide) rfl (fun ls hl => ?_)
    refine lv_aload_n F.1 F.2.1 dL_law_1218 rfl (lv_at hl 3 rfl) ?_
    refine lv_aload_n F.1 F.2.1 dL_law_1219 rfl (lv_at hl 5 rfl) ?_
    refine lv_iload F.1 F.2.1 dL_law_1220 (lv_at hl 1 rfl) ?_
    refine lv_iconst (v := 1) F.1 F.2.1 dL_law_1222 (by decide) ?_
    refine lv_iadd F.1 F.2.1 dL_law_1223 ?_
    refine va_sld F.1 F.2.1 hX hbl hbA G.2.2.2.1 hi1 dL_law_1224 ?_
    refine k_callVR (rv := _) (Wc := gM T aM z) (W2 := gM T aM zR) (Wn := gL T aF aR aD aP aH aW aO aM tx ps nm v vn hs wwR out zR) (As := [.int (xs (x4 + 1).toNatClampNeg)]) (rest := []) F G (mX11_runsIn l D T aM z (xs (x4 + 1).toNatClampNeg) h2) (cwV 1 hAL (kgL_c kLl203 (kgL_c kLl204 (kgL_c kLl205 (kgL_c (kA kl788) (kgL_c (kA kl1011) kgL_k))))) rfl rfl rfl (by decide +kernel) ⟨Nat.le_of_ble_eq_true rfl, Nat.le_of_ble_eq_true rfl⟩) (kg_recv G 0 0 (by decide) rfl (q := (RX11, TX11, 35)) rfl) (kCut_LM G) rfl hl.1 rfl (Nat.le_of_ble_eq_true rfl) dL_law_1225 ⟨kroom2 hcs.1 (Nat.le_of_ble_eq_true rfl), kroom2 hcs.2 (Nat.le_of_ble_eq_true rfl)⟩ (cN := cells + 2) (sN := slots + 12) ⟨rfl, rfl⟩ (fun H locs G => ?_)
    have hS := hSR
    refine lv_istore (lv' := [(6, .int b'), (5, .int 2), (4, .int x4), (3, .ref aO), (2, .ref (aM 0)), (1, .ref (aF 0)), (0, .ref b)]) F.1 F.2.1 dL_law_1228 hl (by decide) rfl (fun ls hl => ?_)
    refine lv_aload_n F.1 F.2.1 dL_law_1230 rfl (lv_at hl 4 rfl) ?_
    refine k_callVR (rv := (some (.int (zR 0 0)))) (Wc := gM T aM zR) (W2 := gM T aM zR) (Wn := gL T aF aR aD aP aH aW aO aM tx ps nm v vn hs wwR out zR) (As := []) (rest := []) F G (mX11_thrown l D T aM zR rfl) (cwV 0 hAL (kgL_c kLl89 (kgL_c kLl90 (kgL_c kLl91 (kgL_c (kA kl788) (kgL_c (kA kl803) kgL_k))))) rfl rfl rfl (by decide +kernel) ⟨Nat.le_of_ble_eq_true rfl, Nat.le_of_ble_eq_true rfl⟩) (kg_recv G 0 0 (by decide) rfl (q := (RX11, TX11, 35)) rfl) (kCut_LM G) rfl hl.1 rfl (Nat.le_of_ble_eq_true rfl) dL_law_1231 ⟨kroom2 hcs.1 (Nat.le_of_ble_eq_true rfl), kroom2 hcs.2 (Nat.le_of_ble_eq_true rfl)⟩ (cN := cells + 2) (sN := slots + 12) ⟨rfl, rfl⟩ (fun H locs G => ?_)
    refine lv_iload F.1 F.2.1 dL_law_1234 (lv_at hl 1 rfl) ?_
    refine lv_icmp_eq (tgt := 1241) F.1 F.2.1 dL_law_1236 (by decide) (fun c => ?_) (fun c => absurd hthr c)
    refine lv_iload F.1 F.2.1 dL_law_1241 (lv_at hl 1 rfl) ?_
    refine lv_if_ne (tgt := 1258) F.1 F.2.1 dL_law_1243 (by decide) (fun c => ?_) (fun c => absurd c (by decide))
    refine lv_goto (tgt := 1909) F.1 F.2.1 dL_law_1258 (by decide) ?_
    exact kk tx ps nm v vn hs wwR out zR _ _ _ hS G (lv_sub hl [2, 3, 4, 5, 6] rfl)
set_option maxHeartbeats 8000000 in
set_option maxRecDepth 100000 in
theorem lc_allIn {Sim : (Nat → Nat → Int32) → (Nat → Nat → Int32) → (Nat → Int64) → (Nat → Nat → Int32) → (Nat → Int64) → (Nat → Nat → Int32) → (Nat → Nat → Nat → Int32) → (Nat → Nat → Int32) → Prop} (Hs : St_allIn Sim) (hst : l.stackTraces = false) (F : CallFix p m c code 9 s args kAll RL) (hAL : ∀ w ∈ kAL, w.before args s = true) (hr : meth.sig.returnType = ret) (hlk : meth.locks = false) (hX : va_X b L xs s s.heap) (hbl : b < s.heap.size) (hbA : ¬ A b) {x4 : Int32} (hi1 : vp_in (x4 + 1) L) (hi2 : vp_in (x4 + 2) L) (hi3 : vp_in (x4 + 3) L) (hi4 : vp_in (x4 + 4) L) (hi5 : vp_in (x4 + 5) L) (hcs : cells + 2 ≤ 601024 ∧ slots + 12 ≤ 7293034) (hS : Sim tx ps nm v vn hs ww z)
    (kk : ∀ (tx : Nat → Nat → Int32) (ps : Nat → Nat → Int32) (nm : Nat → Int64) (v : Nat → Nat → Int32) (vn : Nat → Int64) (hs : Nat → Nat → Int32) (ww : Nat → Nat → Nat → Int32) (out : Nat → Int64) (z : Nat → Nat → Int32) (H : Heap) (locs : List Loc) (ls : Array Slot), Sim tx ps nm v vn hs ww z → Rg D T A s (gL T aF aR aD aP aH aW aO aM tx ps nm v vn hs ww out z) H locs → lv_has ls 9 [(4, .int x4), (3, .ref aO), (2, .ref (aM 0)), (1, .ref (aF 0)), (0, .ref b)] → W p l e room_1 s m args below meth c H locs (cells + 2) (slots + 12) Q (F0 m 1909 ls []))
    (G : Rg D T A s (gL T aF aR aD aP aH aW aO aM tx ps nm v vn hs ww out z) H locs) (hl : lv_has ls 9 [(4, .int x4), (3, .ref aO), (2, .ref (aM 0)), (1, .ref (aF 0)), (0, .ref b)]) : W p l e room_1 s m args below meth c H locs cells slots Q (F0 m 1261 ls []) := by
  refine lv_aload_n F.1 F.2.1 dL_law_1261 rfl (lv_at hl 3 rfl) ?_
  refine lv_aload_n F.1 F.2.1 dL_law_1262 rfl (lv_at hl 4 rfl) ?_
  refine lv_iload F.1 F.2.1 dL_law_1263 (lv_at hl 0 rfl) ?_
  refine lv_iconst (v := 1) F.1 F.2.1 dL_law_1265 (by decide) ?_
  refine lv_iadd F.1 F.2.1 dL_law_1266 ?_
  refine va_sld F.1 F.2.1 hX hbl hbA G.2.2.2.1 hi1 dL_law_1267 ?_
  refine lv_aload_n F.1 F.2.1 dL_law_1268 rfl (lv_at hl 1 rfl) ?_
  obtain ⟨e, r, wwR, b', zR, h1, h2, hd, hSR⟩ := Hs tx ps nm v vn hs ww z hS (xs (x4 + 1).toNatClampNeg)
  rcases hd with ⟨rfl, hz, rfl⟩ | ⟨rfl, hz⟩ | ⟨rfl, hz⟩
  · have hthr : zR 0 0 = 0 := hz
    refine kl_callSW (rv := some (.int 0)) (Wc := gO T aF aR aD aP aH aW aO tx ps nm v vn hs ww out) (W2 := gO T aF aR aD aP aH aW aO tx ps nm v vn hs wwR (vp_updL out 0 r.toInt64)) (Wn := gL T aF aR aD aP aH aW aO aM tx ps nm v vn hs wwR (vp_updL out 0 r.toInt64) z) (As := [.ref (aF 0), .int (xs (x4 + 1).toNatClampNeg), .ref aO]) (rest := []) F G (mL_allIn l hst D T aF aR aD aP aH aW aO tx ps nm v vn hs ww out (xs (x4 + 1).toNatClampNeg) (k := 0) (outR := (vp_updL out 0 r.toInt64)) h1 (Or.inl ⟨rfl, rfl, rfl⟩)) (vx_cwSW 3 hAL (kgL_c kLl206 (kgL_c kLl207 (kgL_c kLl84 (kgL_c kLl208 kgL_a)))) rfl rfl rfl (by decide +kernel) ⟨Nat.le_of_ble_eq_true rfl, Nat.le_of_ble_eq_true rfl⟩) (kCut_LO G) rfl hl.1 rfl (Nat.le_of_ble_eq_true rfl) dL_law_1269 ⟨kroom1 hcs.1 (Nat.le_of_ble_eq_true rfl), kroom1 hcs.2 (Nat.le_of_ble_eq_true rfl)⟩ (cN := cells + 2) (sN := slots + 12) ⟨rfl, rfl⟩ (fun H locs G => ?_)
    have hcmp : lg_cmp ((vp_updL out 0 r.toInt64) (0 : Int32).toNatClampNeg) r.toInt64 = 0 := lg_same _ _
    refine lv_istore (lv' := [(5, .int 0), (4, .int x4), (3, .ref aO), (2, .ref (aM 0)), (1, .ref (aF 0)), (0, .ref b)]) F.1 F.2.1 dL_law_1272 hl (by decide) rfl (fun ls hl => ?_)
    refine lv_aload_n F.1 F.2.1 dL_law_1274 rfl (lv_at hl 3 rfl) ?_
    refine lv_aload_n F.1 F.2.1 dL_law_1275 rfl (lv_at hl 5 rfl) ?_
    refine lv_iload F.1 F.2.1 dL_law_1276 (lv_at hl 1 rfl) ?_
    refine lv_iconst (v := 1) F.1 F.2.1 dL_law_1278 (by decide) ?_
    refine lv_iadd F.1 F.2.1 dL_law_1279 ?_
    refine va_sld F.1 F.2.1 hX hbl hbA G.2.2.2.1 hi1 dL_law_1280 ?_
    refine k_callVR (rv := _) (Wc := gM T aM z) (W2 := gM T aM zR) (Wn := gL T aF aR aD aP aH aW aO aM tx ps nm v vn hs wwR (vp_updL out 0 r.toInt64) zR) (As := [.int (xs (x4 + 1).toNatClampNeg)]) (rest := []) F G (mX11_allIn l D T aM z (xs (x4 + 1).toNatClampNeg) h2) (cwV 1 hAL (kgL_c kLl209 (kgL_c kLl210 (kgL_c kLl211 (kgL_c (kA kl788) (kgL_c (kA kl1019) kgL_k))))) rfl rfl rfl (by decide +kernel) ⟨Nat.le_of_ble_eq_true rfl, Nat.le_of_ble_eq_true rfl⟩) (kg_recv G 0 0 (by decide) rfl (q := (RX11, TX11, 35)) rfl) (kCut_LM G) rfl hl.1 rfl (Nat.le_of_ble_eq_true rfl) dL_law_1281 ⟨kroom2 hcs.1 (Nat.le_of_ble_eq_true rfl), kroom2 hcs.2 (Nat.le_of_ble_eq_true rfl)⟩ (cN := cells + 2) (sN := slots + 12) ⟨rfl, rfl⟩ (fun H locs G => ?_)
    have hS := hSR
    refine lv_istore (lv' := [(6, .int r), (5, .int 0), (4, .int x4), (3, .ref aO), (2, .ref (aM 0)), (1, .ref (aF 0)), (0, .ref b)]) F.1 F.2.1 dL_law_1284 hl (by decide) rfl (fun ls hl => ?_)
    refine lv_aload_n F.1 F.2.1 dL_law_1286 rfl (lv_at hl 4 rfl) ?_
    refine k_callVR (rv := (some (.int (zR 0 0)))) (Wc := gM T aM zR) (W2 := gM T aM zR) (Wn := gL T aF aR aD aP aH aW aO aM tx ps nm v vn hs wwR (vp_updL out 0 r.toInt64) zR) (As := []) (rest := []) F G (mX11_thrown l D T aM zR rfl) (cwV 0 hAL (kgL_c kLl89 (kgL_c kLl90 (kgL_c kLl91 (kgL_c (kA kl788) (kgL_c (kA kl803) kgL_k))))) rfl rfl rfl (by decide +kernel) ⟨Nat.le_of_ble_eq_true rfl, Nat.le_of_ble_eq_true rfl⟩) (kg_recv G 0 0 (by decide) rfl (q := (RX11, TX11, 35)) rfl) (kCut_LM G) rfl hl.1 rfl (Nat.le_of_ble_eq_true rfl) dL_law_1287 ⟨kroom2 hcs.1 (Nat.le_of_ble_eq_true rfl), kroom2 hcs.2 (Nat.le_of_ble_eq_true rfl)⟩ (cN := cells + 2) (sN := slots + 12) ⟨rfl, rfl⟩ (fun H locs G => ?_)
    refine lv_iload F.1 F.2.1 dL_law_1290 (lv_at hl 1 rfl) ?_
    refine lv_icmp_eq (tgt := 1297) F.1 F.2.1 dL_law_1292 (by decide) (fun c => ?_) (fun c => absurd hthr c)
    refine lv_iload F.1 F.2.1 dL_law_1297 (lv_at hl 1 rfl) ?_
    refine lv_if_ne (tgt := 1314) F.1 F.2.1 dL_law_1299 (by decide) (fun c => absurd (by decide) c) (fun c => ?_)
    refine lv_aload_n F.1 F.2.1 dL_law_1302 rfl (lv_at hl 3 rfl) ?_
    refine lv_iconst (v := 0) F.1 F.2.1 dL_law_1303 (by decide) ?_
    refine kg_lald F G 1 0 (by decide) rfl (i := 0) (kin (by decide +kernel)) dL_law_1304 ?_
    refine lv_iload F.1 F.2.1 dL_law_1305 (lv_at hl 0 rfl) ?_
    refine lv_i2l (v := r.toInt64) F.1 F.2.1 dL_law_1307 rfl ?_
    refine W.lcmp F.1 F.2.1 dL_law_1308 ?_
    refine lv_if_eq (tgt := 1314) F.1 F.2.1 dL_law_1309 (by decide) (fun c => ?_) (fun c => absurd hcmp c)
    refine lv_goto (tgt := 1909) F.1 F.2.1 dL_law_1314 (by decide) ?_
    exact kk tx ps nm v vn hs wwR (vp_updL out 0 r.toInt64) zR _ _ _ hS G (lv_sub hl [2, 3, 4, 5, 6] rfl)
  · have hthr : zR 0 0 = 1 := hz
    refine kl_callSW (rv := some (.int 1)) (Wc := gO T aF aR aD aP aH aW aO tx ps nm v vn hs ww out) (W2 := gO T aF aR aD aP aH aW aO tx ps nm v vn hs wwR out) (Wn := gL T aF aR aD aP aH aW aO aM tx ps nm v vn hs wwR out z) (As := [.ref (aF 0), .int (xs (x4 + 1).toNatClampNeg), .ref aO]) (rest := []) F G (mL_allIn l hst D T aF aR aD aP aH aW aO tx ps nm v vn hs ww out (xs (x4 + 1).toNatClampNeg) (k := 1) (outR := out) h1 (Or.inr (Or.inl ⟨rfl, rfl, rfl⟩))) (vx_cwSW 3 hAL (kgL_c kLl206 (kgL_c kLl207 (kgL_c kLl84 (kgL_c kLl208 kgL_a)))) rfl rfl rfl (by decide +kernel) ⟨Nat.le_of_ble_eq_true rfl, Nat.le_of_ble_eq_true rfl⟩) (kCut_LO G) rfl hl.1 rfl (Nat.le_of_ble_eq_true rfl) dL_law_1269 ⟨kroom1 hcs.1 (Nat.le_of_ble_eq_true rfl), kroom1 hcs.2 (Nat.le_of_ble_eq_true rfl)⟩ (cN := cells + 2) (sN := slots + 12) ⟨rfl, rfl⟩ (fun H locs G => ?_)
    refine lv_istore (lv' := [(5, .int 1), (4, .int x4), (3, .ref aO), (2, .ref (aM 0)), (1, .ref (aF 0)), (0, .ref b)]) F.1 F.2.1 dL_law_1272 hl (by decide) rfl (fun ls hl => ?_)
    refine lv_aload_n F.1 F.2.1 dL_law_1274 rfl (lv_at hl 3 rfl) ?_
    refine lv_aload_n F.1 F.2.1 dL_law_1275 rfl (lv_at hl 5 rfl) ?_
    refine lv_iload F.1 F.2.1 dL_law_1276 (lv_at hl 1 rfl) ?_
    refine lv_iconst (v := 1) F.1 F.2.1 dL_law_1278 (by decide) ?_
    refine lv_iadd F.1 F.2.1 dL_law_1279 ?_
    refine va_sld F.1 F.2.1 hX hbl hbA G.2.2.2.1 hi1 dL_law_1280 ?_
    refine k_callVR (rv := _) (Wc := gM T aM z) (W2 := gM T aM zR) (Wn := gL T aF aR aD aP aH aW aO aM tx ps nm v vn hs wwR out zR) (As := [.int (xs (x4 + 1).toNatClampNeg)]) (rest := []) F G (mX11_allIn l D T aM z (xs (x4 + 1).toNatClampNeg) h2) (cwV 1 hAL (kgL_c kLl209 (kgL_c kLl210 (kgL_c kLl211 (kgL_c (kA kl788) (kgL_c (kA kl1019) kgL_k))))) rfl rfl rfl (by decide +kernel) ⟨Nat.le_of_ble_eq_true rfl, Nat.le_of_ble_eq_true rfl⟩) (kg_recv G 0 0 (by decide) rfl (q := (RX11, TX11, 35)) rfl) (kCut_LM G) rfl hl.1 rfl (Nat.le_of_ble_eq_true rfl) dL_law_1281 ⟨kroom2 hcs.1 (Nat.le_of_ble_eq_true rfl), kroom2 hcs.2 (Nat.le_of_ble_eq_true rfl)⟩ (cN := cells + 2) (sN := slots + 12) ⟨rfl, rfl⟩ (fun H locs G => ?_)
    have hS := hSR
    refine lv_istore (lv' := [(6, .int b'), (5, .int 1), (4, .int x4), (3, .ref aO), (2, .ref (aM 0)), (1, .ref (aF 0)), (0, .ref b)]) F.1 F.2.1 dL_law_1284 hl (by decide) rfl (fun ls hl => ?_)
    refine lv_aload_n F.1 F.2.1 dL_law_1286 rfl (lv_at hl 4 rfl) ?_
    refine k_callVR (rv := (some (.int (zR 0 0)))) (Wc := gM T aM zR) (W2 := gM T aM zR) (Wn := gL T aF aR aD aP aH aW aO aM tx ps nm v vn hs wwR out zR) (As := []) (rest := []) F G (mX11_thrown l D T aM zR rfl) (cwV 0 hAL (kgL_c kLl89 (kgL_c kLl90 (kgL_c kLl91 (kgL_c (kA kl788) (kgL_c (kA kl803) kgL_k))))) rfl rfl rfl (by decide +kernel) ⟨Nat.le_of_ble_eq_true rfl, Nat.le_of_ble_eq_true rfl⟩) (kg_recv G 0 0 (by decide) rfl (q := (RX11, TX11, 35)) rfl) (kCut_LM G) rfl hl.1 rfl (Nat.le_of_ble_eq_true rfl) dL_law_1287 ⟨kroom2 hcs.1 (Nat.le_of_ble_eq_true rfl), kroom2 hcs.2 (Nat.le_of_ble_eq_true rfl)⟩ (cN := cells + 2) (sN := slots + 12) ⟨rfl, rfl⟩ (fun H locs G => ?_)
    refine lv_iload F.1 F.2.1 dL_law_1290 (lv_at hl 1 rfl) ?_
    refine lv_icmp_eq (tgt := 1297) F.1 F.2.1 dL_law_1292 (by decide) (fun c => ?_) (fun c => absurd hthr c)
    refine lv_iload F.1 F.2.1 dL_law_1297 (lv_at hl 1 rfl) ?_
    refine lv_if_ne (tgt := 1314) F.1 F.2.1 dL_law_1299 (by decide) (fun c => ?_) (fun c => absurd c (by decide))
    refine lv_goto (tgt := 1909) F.1 F.2.1 dL_law_1314 (by decide) ?_
    exact kk tx ps nm v vn hs wwR out zR _ _ _ hS G (lv_sub hl [2, 3, 4, 5, 6] rfl)
  · have hthr : zR 0 0 = 2 := hz
    refine kl_callSW (rv := some (.int 2)) (Wc := gO T aF aR aD aP aH aW aO tx ps nm v vn hs ww out) (W2 := gO T aF aR aD aP aH aW aO tx ps nm v vn hs wwR out) (Wn := gL T aF aR aD aP aH aW aO aM tx ps nm v vn hs wwR out z) (As := [.ref (aF 0), .int (xs (x4 + 1).toNatClampNeg), .ref aO]) (rest := []) F G (mL_allIn l hst D T aF aR aD aP aH aW aO tx ps nm v vn hs ww out (xs (x4 + 1).toNatClampNeg) (k := 2) (outR := out) h1 (Or.inr (Or.inr ⟨rfl, rfl, rfl⟩))) (vx_cwSW 3 hAL (kgL_c kLl206 (kgL_c kLl207 (kgL_c kLl84 (kgL_c kLl208 kgL_a)))) rfl rfl rfl (by decide +kernel) ⟨Nat.le_of_ble_eq_true rfl, Nat.le_of_ble_eq_true rfl⟩) (kCut_LO G) rfl hl.1 rfl (Nat.le_of_ble_eq_true rfl) dL_law_1269 ⟨kroom1 hcs.1 (Nat.le_of_ble_eq_true rfl), kroom1 hcs.2 (Nat.le_of_ble_eq_true rfl)⟩ (cN := cells + 2) (sN := slots + 12) ⟨rfl, rfl⟩ (fun H locs G => ?_)
    refine lv_istore (lv' := [(5, .int 2), (4, .int x4), (3, .ref aO), (2, .ref (aM 0)), (1, .ref (aF 0)), (0, .ref b)]) F.1 F.2.1 dL_law_1272 hl (by decide) rfl (fun ls hl => ?_)
    refine lv_aload_n F.1 F.2.1 dL_law_1274 rfl (lv_at hl 3 rfl) ?_
    refine lv_aload_n F.1 F.2.1 dL_law_1275 rfl (lv_at hl 5 rfl) ?_
    refine lv_iload F.1 F.2.1 dL_law_1276 (lv_at hl 1 rfl) ?_
    refine lv_iconst (v := 1) F.1 F.2.1 dL_law_1278 (by decide) ?_
    refine lv_iadd F.1 F.2.1 dL_law_1279 ?_
    refine va_sld F.1 F.2.1 hX hbl hbA G.2.2.2.1 hi1 dL_law_1280 ?_
    refine k_callVR (rv := _) (Wc := gM T aM z) (W2 := gM T aM zR) (Wn := gL T aF aR aD aP aH aW aO aM tx ps nm v vn hs wwR out zR) (As := [.int (xs (x4 + 1).toNatClampNeg)]) (rest := []) F G (mX11_allIn l D T aM z (xs (x4 + 1).toNatClampNeg) h2) (cwV 1 hAL (kgL_c kLl209 (kgL_c kLl210 (kgL_c kLl211 (kgL_c (kA kl788) (kgL_c (kA kl1019) kgL_k))))) rfl rfl rfl (by decide +kernel) ⟨Nat.le_of_ble_eq_true rfl, Nat.le_of_ble_eq_true rfl⟩) (kg_recv G 0 0 (by decide) rfl (q := (RX11, TX11, 35)) rfl) (kCut_LM G) rfl hl.1 rfl (Nat.le_of_ble_eq_true rfl) dL_law_1281 ⟨kroom2 hcs.1 (Nat.le_of_ble_eq_true rfl), kroom2 hcs.2 (Nat.le_of_ble_eq_true rfl)⟩ (cN := cells + 2) (sN := slots + 12) ⟨rfl, rfl⟩ (fun H locs G => ?_)
    have hS := hSR
    refine lv_istore (lv' := [(6, .int b'), (5, .int 2), (4, .int x4), (3, .ref aO), (2, .ref (aM 0)), (1, .ref (aF 0)), (0, .ref b)]) F.1 F.2.1 dL_law_1284 hl (by decide) rfl (fun ls hl => ?_)
    refine lv_aload_n F.1 F.2.1 dL_law_1286 rfl (lv_at hl 4 rfl) ?_
    refine k_callVR (rv := (some (.int (zR 0 0)))) (Wc := gM T aM zR) (W2 := gM T aM zR) (Wn := gL T aF aR aD aP aH aW aO aM tx ps nm v vn hs wwR out zR) (As := []) (rest := []) F G (mX11_thrown l D T aM zR rfl) (cwV 0 hAL (kgL_c kLl89 (kgL_c kLl90 (kgL_c kLl91 (kgL_c (kA kl788) (kgL_c (kA kl803) kgL_k))))) rfl rfl rfl (by decide +kernel) ⟨Nat.le_of_ble_eq_true rfl, Nat.le_of_ble_eq_true rfl⟩) (kg_recv G 0 0 (by decide) rfl (q := (RX11, TX11, 35)) rfl) (kCut_LM G) rfl hl.1 rfl (Nat.le_of_ble_eq_true rfl) dL_law_1287 ⟨kroom2 hcs.1 (Nat.le_of_ble_eq_true rfl), kroom2 hcs.2 (Nat.le_of_ble_eq_true rfl)⟩ (cN := cells + 2) (sN := slots + 12) ⟨rfl, rfl⟩ (fun H locs G => ?_)
    refine lv_iload F.1 F.2.1 dL_law_1290 (lv_at hl 1 rfl) ?_
    refine lv_icmp_eq (tgt := 1297) F.1 F.2.1 dL_law_1292 (by decide) (fun c => ?_) (fun c => absurd hthr c)
    refine lv_iload F.1 F.2.1 dL_law_1297 (lv_at hl 1 rfl) ?_
    refine lv_if_ne (tgt := 1314) F.1 F.2.1 dL_law_1299 (by decide) (fun c => ?_) (fun c => absurd c (by decide))
    refine lv_goto (tgt := 1909) F.1 F.2.1 dL_law_1314 (by decide) ?_
    exact kk tx ps nm v vn hs wwR out zR _ _ _ hS G (lv_sub hl [2, 3, 4, 5, 6] rfl)
set_option maxHeartbeats 8000000 in
set_option maxRecDepth 100000 in
theorem lc_peakIn {Sim : (Nat → Nat → Int32) → (Nat → Nat → Int32) → (Nat → Int64) → (Nat → Nat → Int32) → (Nat → Int64) → (Nat → Nat → Int32) → (Nat → Nat → Nat → Int32) → (Nat → Nat → Int32) → Prop} (Hs : St_peakIn Sim) (hst : l.stackTraces = false) (F : CallFix p m c code 9 s args kAll RL) (hAL : ∀ w ∈ kAL, w.before args s = true) (hr : meth.sig.returnType = ret) (hlk : meth.locks = false) (hX : va_X b L xs s s.heap) (hbl : b < s.heap.size) (hbA : ¬ A b) {x4 : Int32} (hi1 : vp_in (x4 + 1) L) (hi2 : vp_in (x4 + 2) L) (hi3 : vp_in (x4 + 3) L) (hi4 : vp_in (x4 + 4) L) (hi5 : vp_in (x4 + 5) L) (hcs : cells + 2 ≤ 601024 ∧ slots + 12 ≤ 7293034) (hS : Sim tx ps nm v vn hs ww z)
    (kk : ∀ (tx : Nat → Nat → Int32) (ps : Nat → Nat → Int32) (nm : Nat → Int64) (v : Nat → Nat → Int32) (vn : Nat → Int64) (hs : Nat → Nat → Int32) (ww : Nat → Nat → Nat → Int32) (out : Nat → Int64) (z : Nat → Nat → Int32) (H : Heap) (locs : List Loc) (ls : Array Slot), Sim tx ps nm v vn hs ww z → Rg D T A s (gL T aF aR aD aP aH aW aO aM tx ps nm v vn hs ww out z) H locs → lv_has ls 9 [(4, .int x4), (3, .ref aO), (2, .ref (aM 0)), (1, .ref (aF 0)), (0, .ref b)] → W p l e room_1 s m args below meth c H locs (cells + 2) (slots + 12) Q (F0 m 1909 ls []))
    (G : Rg D T A s (gL T aF aR aD aP aH aW aO aM tx ps nm v vn hs ww out z) H locs) (hl : lv_has ls 9 [(4, .int x4), (3, .ref aO), (2, .ref (aM 0)), (1, .ref (aF 0)), (0, .ref b)]) : W p l e room_1 s m args below meth c H locs cells slots Q (F0 m 1317 ls []) := by
  refine lv_aload_n F.1 F.2.1 dL_law_1317 rfl (lv_at hl 3 rfl) ?_
  refine lv_aload_n F.1 F.2.1 dL_law_1318 rfl (lv_at hl 4 rfl) ?_
  refine lv_iload F.1 F.2.1 dL_law_1319 (lv_at hl 0 rfl) ?_
  refine lv_iconst (v := 1) F.1 F.2.1 dL_law_1321 (by decide) ?_
  refine lv_iadd F.1 F.2.1 dL_law_1322 ?_
  refine va_sld F.1 F.2.1 hX hbl hbA G.2.2.2.1 hi1 dL_law_1323 ?_
  refine lv_aload_n F.1 F.2.1 dL_law_1324 rfl (lv_at hl 4 rfl) ?_
  refine lv_iload F.1 F.2.1 dL_law_1325 (lv_at hl 0 rfl) ?_
  refine lv_iconst (v := 2) F.1 F.2.1 dL_law_1327 (by decide) ?_
  refine lv_iadd F.1 F.2.1 dL_law_1328 ?_
  refine va_sld F.1 F.2.1 hX hbl hbA G.2.2.2.1 hi2 dL_law_1329 ?_
  refine lv_aload_n F.1 F.2.1 dL_law_1330 rfl (lv_at hl 1 rfl) ?_
  obtain ⟨e, r, wwR, b', zR, h1, h2, hd, hSR⟩ := Hs tx ps nm v vn hs ww z hS (xs (x4 + 1).toNatClampNeg) (xs (x4 + 2).toNatClampNeg)
  rcases hd with ⟨rfl, hz, rfl⟩ | ⟨rfl, hz⟩
  · have hthr : zR 0 0 = 0 := hz
    refine kl_callSW (rv := some (.int 0)) (Wc := gO T aF aR aD aP aH aW aO tx ps nm v vn hs ww out) (W2 := gO T aF aR aD aP aH aW aO tx ps nm v vn hs wwR (vp_updL out 0 r.toInt64)) (Wn := gL T aF aR aD aP aH aW aO aM tx ps nm v vn hs wwR (vp_updL out 0 r.toInt64) z) (As := [.ref (aF 0), .int (xs (x4 + 1).toNatClampNeg), .int (xs (x4 + 2).toNatClampNeg), .ref aO]) (rest := []) F G (mL_peakIn l hst D T aF aR aD aP aH aW aO tx ps nm v vn hs ww out (xs (x4 + 1).toNatClampNeg) (xs (x4 + 2).toNatClampNeg) (k := 0) (outR := (vp_updL out 0 r.toInt64)) h1 (Or.inl ⟨rfl, rfl, rfl⟩)) (vx_cwSW 4 hAL (kgL_c kLl212 (kgL_c kLl213 (kgL_c kLl84 (kgL_c kLl214 kgL_a)))) rfl rfl rfl (by decide +kernel) ⟨Nat.le_of_ble_eq_true rfl, Nat.le_of_ble_eq_true rfl⟩) (kCut_LO G) rfl hl.1 rfl (Nat.le_of_ble_eq_true rfl) dL_law_1331 ⟨kroom1 hcs.1 (Nat.le_of_ble_eq_true rfl), kroom1 hcs.2 (Nat.le_of_ble_eq_true rfl)⟩ (cN := cells + 2) (sN := slots + 12) ⟨rfl, rfl⟩ (fun H locs G => ?_)
    have hcmp : lg_cmp ((vp_updL out 0 r.toInt64) (0 : Int32).toNatClampNeg) r.toInt64 = 0 := lg_same _ _
    refine lv_istore (lv' := [(5, .int 0), (4, .int x4), (3, .ref aO), (2, .ref (aM 0)), (1, .ref (aF 0)), (0, .ref b)]) F.1 F.2.1 dL_law_1334 hl (by decide) rfl (fun ls hl => ?_)
    refine lv_aload_n F.1 F.2.1 dL_law_1336 rfl (lv_at hl 3 rfl) ?_
    refine lv_aload_n F.1 F.2.1 dL_law_1337 rfl (lv_at hl 5 rfl) ?_
    refine lv_iload F.1 F.2.1 dL_law_1338 (lv_at hl 1 rfl) ?_
    refine lv_iconst (v := 1) F.1 F.2.1 dL_law_1340 (by decide) ?_
    refine lv_iadd F.1 F.2.1 dL_law_1341 ?_
    refine va_sld F.1 F.2.1 hX hbl hbA G.2.2.2.1 hi1 dL_law_1342 ?_
    refine lv_aload_n F.1 F.2.1 dL_law_1343 rfl (lv_at hl 5 rfl) ?_
    refine lv_iload F.1 F.2.1 dL_law_1344 (lv_at hl 1 rfl) ?_
    refine lv_iconst (v := 2) F.1 F.2.1 dL_law_1346 (by decide) ?_
    refine lv_iadd F.1 F.2.1 dL_law_1347 ?_
    refine va_sld F.1 F.2.1 hX hbl hbA G.2.2.2.1 hi2 dL_law_1348 ?_
    refine k_callVR (rv := _) (Wc := gM T aM z) (W2 := gM T aM zR) (Wn := gL T aF aR aD aP aH aW aO aM tx ps nm v vn hs wwR (vp_updL out 0 r.toInt64) zR) (As := [.int (xs (x4 + 1).toNatClampNeg), .int (xs (x4 + 2).toNatClampNeg)]) (rest := []) F G (mX11_peakIn l D T aM z (xs (x4 + 1).toNatClampNeg) (xs (x4 + 2).toNatClampNeg) h2) (cwV 2 hAL (kgL_c kLl215 (kgL_c kLl216 (kgL_c kLl217 (kgL_c (kA kl788) (kgL_c (kA kl1024) kgL_k))))) rfl rfl rfl (by decide +kernel) ⟨Nat.le_of_ble_eq_true rfl, Nat.le_of_ble_eq_true rfl⟩) (kg_recv G 0 0 (by decide) rfl (q := (RX11, TX11, 35)) rfl) (kCut_LM G) rfl hl.1 rfl (Nat.le_of_ble_eq_true rfl) dL_law_1349 ⟨kroom2 hcs.1 (Nat.le_of_ble_eq_true rfl), kroom2 hcs.2 (Nat.le_of_ble_eq_true rfl)⟩ (cN := cells + 2) (sN := slots + 12) ⟨rfl, rfl⟩ (fun H locs G => ?_)
    have hS := hSR
    refine lv_istore (lv' := [(6, .int r), (5, .int 0), (4, .int x4), (3, .ref aO), (2, .ref (aM 0)), (1, .ref (aF 0)), (0, .ref b)]) F.1 F.2.1 dL_law_1352 hl (by decide) rfl (fun ls hl => ?_)
    refine lv_aload_n F.1 F.2.1 dL_law_1354 rfl (lv_at hl 4 rfl) ?_
    refine k_callVR (rv := (some (.int (zR 0 0)))) (Wc := gM T aM zR) (W2 := gM T aM zR) (Wn := gL T aF aR aD aP aH aW aO aM tx ps nm v vn hs wwR (vp_updL out 0 r.toInt64) zR) (As := []) (rest := []) F G (mX11_thrown l D T aM zR rfl) (cwV 0 hAL (kgL_c kLl89 (kgL_c kLl90 (kgL_c kLl91 (kgL_c (kA kl788) (kgL_c (kA kl803) kgL_k))))) rfl rfl rfl (by decide +kernel) ⟨Nat.le_of_ble_eq_true rfl, Nat.le_of_ble_eq_true rfl⟩) (kg_recv G 0 0 (by decide) rfl (q := (RX11, TX11, 35)) rfl) (kCut_LM G) rfl hl.1 rfl (Nat.le_of_ble_eq_true rfl) dL_law_1355 ⟨kroom2 hcs.1 (Nat.le_of_ble_eq_true rfl), kroom2 hcs.2 (Nat.le_of_ble_eq_true rfl)⟩ (cN := cells + 2) (sN := slots + 12) ⟨rfl, rfl⟩ (fun H locs G => ?_)
    refine lv_iload F.1 F.2.1 dL_law_1358 (lv_at hl 1 rfl) ?_
    refine lv_icmp_eq (tgt := 1365) F.1 F.2.1 dL_law_1360 (by decide) (fun c => ?_) (fun c => absurd hthr c)
    refine lv_iload F.1 F.2.1 dL_law_1365 (lv_at hl 1 rfl) ?_
    refine lv_if_ne (tgt := 1382) F.1 F.2.1 dL_law_1367 (by decide) (fun c => absurd (by decide) c) (fun c => ?_)
    refine lv_aload_n F.1 F.2.1 dL_law_1370 rfl (lv_at hl 3 rfl) ?_
    refine lv_iconst (v := 0) F.1 F.2.1 dL_law_1371 (by decide) ?_
    refine kg_lald F G 1 0 (by decide) rfl (i := 0) (kin (by decide +kernel)) dL_law_1372 ?_
    refine lv_iload F.1 F.2.1 dL_law_1373 (lv_at hl 0 rfl) ?_
    refine lv_i2l (v := r.toInt64) F.1 F.2.1 dL_law_1375 rfl ?_
    refine W.lcmp F.1 F.2.1 dL_law_1376 ?_
    refine lv_if_eq (tgt := 1382) F.1 F.2.1 dL_law_1377 (by decide) (fun c => ?_) (fun c => absurd hcmp c)
    refine lv_goto (tgt := 1909) F.1 F.2.1 dL_law_1382 (by decide) ?_
    exact kk tx ps nm v vn hs wwR (vp_updL out 0 r.toInt64) zR _ _ _ hS G (lv_sub hl [2, 3, 4, 5, 6] rfl)
  · have hthr : zR 0 0 = 1 := hz
    refine kl_callSW (rv := some (.int 1)) (Wc := gO T aF aR aD aP aH aW aO tx ps nm v vn hs ww out) (W2 := gO T aF aR aD aP aH aW aO tx ps nm v vn hs wwR out) (Wn := gL T aF aR aD aP aH aW aO aM tx ps nm v vn hs wwR out z) (As := [.ref (aF 0), .int (xs (x4 + 1).toNatClampNeg), .int (xs (x4 + 2).toNatClampNeg), .ref aO]) (rest := []) F G (mL_peakIn l hst D T aF aR aD aP aH aW aO tx ps nm v vn hs ww out (xs (x4 + 1).toNatClampNeg) (xs (x4 + 2).toNatClampNeg) (k := 1) (outR := out) h1 (Or.inr ⟨rfl, rfl, rfl⟩)) (vx_cwSW 4 hAL (kgL_c kLl212 (kgL_c kLl213 (kgL_c kLl84 (kgL_c kLl214 kgL_a)))) rfl rfl rfl (by decide +kernel) ⟨Nat.le_of_ble_eq_true rfl, Nat.le_of_ble_eq_true rfl⟩) (kCut_LO G) rfl hl.1 rfl (Nat.le_of_ble_eq_true rfl) dL_law_1331 ⟨kroom1 hcs.1 (Nat.le_of_ble_eq_true rfl), kroom1 hcs.2 (Nat.le_of_ble_eq_true rfl)⟩ (cN := cells + 2) (sN := slots + 12) ⟨rfl, rfl⟩ (fun H locs G => ?_)
    refine lv_istore (lv' := [(5, .int 1), (4, .int x4), (3, .ref aO), (2, .ref (aM 0)), (1, .ref (aF 0)), (0, .ref b)]) F.1 F.2.1 dL_law_1334 hl (by decide) rfl (fun ls hl => ?_)
    refine lv_aload_n F.1 F.2.1 dL_law_1336 rfl (lv_at hl 3 rfl) ?_
    refine lv_aload_n F.1 F.2.1 dL_law_1337 rfl (lv_at hl 5 rfl) ?_
    refine lv_iload F.1 F.2.1 dL_law_1338 (lv_at hl 1 rfl) ?_
    refine lv_iconst (v := 1) F.1 F.2.1 dL_law_1340 (by decide) ?_
    refine lv_iadd F.1 F.2.1 dL_law_1341 ?_
    refine va_sld F.1 F.2.1 hX hbl hbA G.2.2.2.1 hi1 dL_law_1342 ?_
    refine lv_aload_n F.1 F.2.1 dL_law_1343 rfl (lv_at hl 5 rfl) ?_
    refine lv_iload F.1 F.2.1 dL_law_1344 (lv_at hl 1 rfl) ?_
    refine lv_iconst (v := 2) F.1 F.2.1 dL_law_1346 (by decide) ?_
    refine lv_iadd F.1 F.2.1 dL_law_1347 ?_
    refine va_sld F.1 F.2.1 hX hbl hbA G.2.2.2.1 hi2 dL_law_1348 ?_
    refine k_callVR (rv := _) (Wc := gM T aM z) (W2 := gM T aM zR) (Wn := gL T aF aR aD aP aH aW aO aM tx ps nm v vn hs wwR out zR) (As := [.int (xs (x4 + 1).toNatClampNeg), .int (xs (x4 + 2).toNatClampNeg)]) (rest := []) F G (mX11_peakIn l D T aM z (xs (x4 + 1).toNatClampNeg) (xs (x4 + 2).toNatClampNeg) h2) (cwV 2 hAL (kgL_c kLl215 (kgL_c kLl216 (kgL_c kLl217 (kgL_c (kA kl788) (kgL_c (kA kl1024) kgL_k))))) rfl rfl rfl (by decide +kernel) ⟨Nat.le_of_ble_eq_true rfl, Nat.le_of_ble_eq_true rfl⟩) (kg_recv G 0 0 (by decide) rfl (q := (RX11, TX11, 35)) rfl) (kCut_LM G) rfl hl.1 rfl (Nat.le_of_ble_eq_true rfl) dL_law_1349 ⟨kroom2 hcs.1 (Nat.le_of_ble_eq_true rfl), kroom2 hcs.2 (Nat.le_of_ble_eq_true rfl)⟩ (cN := cells + 2) (sN := slots + 12) ⟨rfl, rfl⟩ (fun H locs G => ?_)
    have hS := hSR
    refine lv_istore (lv' := [(6, .int b'), (5, .int 1), (4, .int x4), (3, .ref aO), (2, .ref (aM 0)), (1, .ref (aF 0)), (0, .ref b)]) F.1 F.2.1 dL_law_1352 hl (by decide) rfl (fun ls hl => ?_)
    refine lv_aload_n F.1 F.2.1 dL_law_1354 rfl (lv_at hl 4 rfl) ?_
    refine k_callVR (rv := (some (.int (zR 0 0)))) (Wc := gM T aM zR) (W2 := gM T aM zR) (Wn := gL T aF aR aD aP aH aW aO aM tx ps nm v vn hs wwR out zR) (As := []) (rest := []) F G (mX11_thrown l D T aM zR rfl) (cwV 0 hAL (kgL_c kLl89 (kgL_c kLl90 (kgL_c kLl91 (kgL_c (kA kl788) (kgL_c (kA kl803) kgL_k))))) rfl rfl rfl (by decide +kernel) ⟨Nat.le_of_ble_eq_true rfl, Nat.le_of_ble_eq_true rfl⟩) (kg_recv G 0 0 (by decide) rfl (q := (RX11, TX11, 35)) rfl) (kCut_LM G) rfl hl.1 rfl (Nat.le_of_ble_eq_true rfl) dL_law_1355 ⟨kroom2 hcs.1 (Nat.le_of_ble_eq_true rfl), kroom2 hcs.2 (Nat.le_of_ble_eq_true rfl)⟩ (cN := cells + 2) (sN := slots + 12) ⟨rfl, rfl⟩ (fun H locs G => ?_)
    refine lv_iload F.1 F.2.1 dL_law_1358 (lv_at hl 1 rfl) ?_
    refine lv_icmp_eq (tgt := 1365) F.1 F.2.1 dL_law_1360 (by decide) (fun c => ?_) (fun c => absurd hthr c)
    refine lv_iload F.1 F.2.1 dL_law_1365 (lv_at hl 1 rfl) ?_
    refine lv_if_ne (tgt := 1382) F.1 F.2.1 dL_law_1367 (by decide) (fun c => ?_) (fun c => absurd c (by decide))
    refine lv_goto (tgt := 1909) F.1 F.2.1 dL_law_1382 (by decide) ?_
    exact kk tx ps nm v vn hs wwR out zR _ _ _ hS G (lv_sub hl [2, 3, 4, 5, 6] rfl)
set_option maxHeartbeats 8000000 in
set_option maxRecDepth 100000 in
theorem lc_sentIn {Sim : (Nat → Nat → Int32) → (Nat → Nat → Int32) → (Nat → Int64) → (Nat → Nat → Int32) → (Nat → Int64) → (Nat → Nat → Int32) → (Nat → Nat → Nat → Int32) → (Nat → Nat → Int32) → Prop} (Hs : St_sentIn Sim) (hst : l.stackTraces = false) (F : CallFix p m c code 9 s args kAll RL) (hAL : ∀ w ∈ kAL, w.before args s = true) (hr : meth.sig.returnType = ret) (hlk : meth.locks = false) (hX : va_X b L xs s s.heap) (hbl : b < s.heap.size) (hbA : ¬ A b) {x4 : Int32} (hi1 : vp_in (x4 + 1) L) (hi2 : vp_in (x4 + 2) L) (hi3 : vp_in (x4 + 3) L) (hi4 : vp_in (x4 + 4) L) (hi5 : vp_in (x4 + 5) L) (hcs : cells + 2 ≤ 601024 ∧ slots + 12 ≤ 7293034) (hS : Sim tx ps nm v vn hs ww z)
    (kk : ∀ (tx : Nat → Nat → Int32) (ps : Nat → Nat → Int32) (nm : Nat → Int64) (v : Nat → Nat → Int32) (vn : Nat → Int64) (hs : Nat → Nat → Int32) (ww : Nat → Nat → Nat → Int32) (out : Nat → Int64) (z : Nat → Nat → Int32) (H : Heap) (locs : List Loc) (ls : Array Slot), Sim tx ps nm v vn hs ww z → Rg D T A s (gL T aF aR aD aP aH aW aO aM tx ps nm v vn hs ww out z) H locs → lv_has ls 9 [(4, .int x4), (3, .ref aO), (2, .ref (aM 0)), (1, .ref (aF 0)), (0, .ref b)] → W p l e room_1 s m args below meth c H locs (cells + 2) (slots + 12) Q (F0 m 1909 ls []))
    (G : Rg D T A s (gL T aF aR aD aP aH aW aO aM tx ps nm v vn hs ww out z) H locs) (hl : lv_has ls 9 [(4, .int x4), (3, .ref aO), (2, .ref (aM 0)), (1, .ref (aF 0)), (0, .ref b)]) : W p l e room_1 s m args below meth c H locs cells slots Q (F0 m 1385 ls []) := by
  refine lv_aload_n F.1 F.2.1 dL_law_1385 rfl (lv_at hl 3 rfl) ?_
  refine lv_aload_n F.1 F.2.1 dL_law_1386 rfl (lv_at hl 4 rfl) ?_
  refine lv_iload F.1 F.2.1 dL_law_1387 (lv_at hl 0 rfl) ?_
  refine lv_iconst (v := 1) F.1 F.2.1 dL_law_1389 (by decide) ?_
  refine lv_iadd F.1 F.2.1 dL_law_1390 ?_
  refine va_sld F.1 F.2.1 hX hbl hbA G.2.2.2.1 hi1 dL_law_1391 ?_
  refine lv_aload_n F.1 F.2.1 dL_law_1392 rfl (lv_at hl 4 rfl) ?_
  refine lv_iload F.1 F.2.1 dL_law_1393 (lv_at hl 0 rfl) ?_
  refine lv_iconst (v := 2) F.1 F.2.1 dL_law_1395 (by decide) ?_
  refine lv_iadd F.1 F.2.1 dL_law_1396 ?_
  refine va_sld F.1 F.2.1 hX hbl hbA G.2.2.2.1 hi2 dL_law_1397 ?_
  refine lv_aload_n F.1 F.2.1 dL_law_1398 rfl (lv_at hl 1 rfl) ?_
  obtain ⟨e, r, wwR, b', zR, h1, h2, hd, hSR⟩ := Hs tx ps nm v vn hs ww z hS (xs (x4 + 1).toNatClampNeg) (xs (x4 + 2).toNatClampNeg)
  rcases hd with ⟨rfl, hz, rfl⟩ | ⟨rfl, hz⟩
  · have hthr : zR 0 0 = 0 := hz
    refine kl_callSW (rv := some (.int 0)) (Wc := gO T aF aR aD aP aH aW aO tx ps nm v vn hs ww out) (W2 := gO T aF aR aD aP aH aW aO tx ps nm v vn hs wwR (vp_updL out 0 r.toInt64)) (Wn := gL T aF aR aD aP aH aW aO aM tx ps nm v vn hs wwR (vp_updL out 0 r.toInt64) z) (As := [.ref (aF 0), .int (xs (x4 + 1).toNatClampNeg), .int (xs (x4 + 2).toNatClampNeg), .ref aO]) (rest := []) F G (mL_sentIn l hst D T aF aR aD aP aH aW aO tx ps nm v vn hs ww out (xs (x4 + 1).toNatClampNeg) (xs (x4 + 2).toNatClampNeg) (k := 0) (outR := (vp_updL out 0 r.toInt64)) h1 (Or.inl ⟨rfl, rfl, rfl⟩)) (vx_cwSW 4 hAL (kgL_c kLl218 (kgL_c kLl219 (kgL_c kLl84 (kgL_c kLl220 kgL_a)))) rfl rfl rfl (by decide +kernel) ⟨Nat.le_of_ble_eq_true rfl, Nat.le_of_ble_eq_true rfl⟩) (kCut_LO G) rfl hl.1 rfl (Nat.le_of_ble_eq_true rfl) dL_law_1399 ⟨kroom1 hcs.1 (Nat.le_of_ble_eq_true rfl), kroom1 hcs.2 (Nat.le_of_ble_eq_true rfl)⟩ (cN := cells + 2) (sN := slots + 12) ⟨rfl, rfl⟩ (fun H locs G => ?_)
    have hcmp : lg_cmp ((vp_updL out 0 r.toInt64) (0 : Int32).toNatClampNeg) r.toInt64 = 0 := lg_same _ _
    refine lv_istore (lv' := [(5, .int 0), (4, .int x4), (3, .ref aO), (2, .ref (aM 0)), (1, .ref (aF 0)), (0, .ref b)]) F.1 F.2.1 dL_law_1402 hl (by decide) rfl (fun ls hl => ?_)
    refine lv_aload_n F.1 F.2.1 dL_law_1404 rfl (lv_at hl 3 rfl) ?_
    refine lv_aload_n F.1 F.2.1 dL_law_1405 rfl (lv_at hl 5 rfl) ?_
    refine lv_iload F.1 F.2.1 dL_law_1406 (lv_at hl 1 rfl) ?_
    refine lv_iconst (v := 1) F.1 F.2.1 dL_law_1408 (by decide) ?_
    refine lv_iadd F.1 F.2.1 dL_law_1409 ?_
    refine va_sld F.1 F.2.1 hX hbl hbA G.2.2.2.1 hi1 dL_law_1410 ?_
    refine lv_aload_n F.1 F.2.1 dL_law_1411 rfl (lv_at hl 5 rfl) ?_
    refine lv_iload F.1 F.2.1 dL_law_1412 (lv_at hl 1 rfl) ?_
    refine lv_iconst (v := 2) F.1 F.2.1 dL_law_1414 (by decide) ?_
    refine lv_iadd F.1 F.2.1 dL_law_1415 ?_
    refine va_sld F.1 F.2.1 hX hbl hbA G.2.2.2.1 hi2 dL_law_1416 ?_
    refine k_callVR (rv := _) (Wc := gM T aM z) (W2 := gM T aM zR) (Wn := gL T aF aR aD aP aH aW aO aM tx ps nm v vn hs wwR (vp_updL out 0 r.toInt64) zR) (As := [.int (xs (x4 + 1).toNatClampNeg), .int (xs (x4 + 2).toNatClampNeg)]) (rest := []) F G (mX11_sentIn l D T aM z (xs (x4 + 1).toNatClampNeg) (xs (x4 + 2).toNatClampNeg) h2) (cwV 2 hAL (kgL_c kLl221 (kgL_c kLl222 (kgL_c kLl223 (kgL_c (kA kl788) (kgL_c (kA kl1028) kgL_k))))) rfl rfl rfl (by decide +kernel) ⟨Nat.le_of_ble_eq_true rfl, Nat.le_of_ble_eq_true rfl⟩) (kg_recv G 0 0 (by decide) rfl (q := (RX11, TX11, 35)) rfl) (kCut_LM G) rfl hl.1 rfl (Nat.le_of_ble_eq_true rfl) dL_law_1417 ⟨kroom2 hcs.1 (Nat.le_of_ble_eq_true rfl), kroom2 hcs.2 (Nat.le_of_ble_eq_true rfl)⟩ (cN := cells + 2) (sN := slots + 12) ⟨rfl, rfl⟩ (fun H locs G => ?_)
    have hS := hSR
    refine lv_istore (lv' := [(6, .int r), (5, .int 0), (4, .int x4), (3, .ref aO), (2, .ref (aM 0)), (1, .ref (aF 0)), (0, .ref b)]) F.1 F.2.1 dL_law_1420 hl (by decide) rfl (fun ls hl => ?_)
    refine lv_aload_n F.1 F.2.1 dL_law_1422 rfl (lv_at hl 4 rfl) ?_
    refine k_callVR (rv := (some (.int (zR 0 0)))) (Wc := gM T aM zR) (W2 := gM T aM zR) (Wn := gL T aF aR aD aP aH aW aO aM tx ps nm v vn hs wwR (vp_updL out 0 r.toInt64) zR) (As := []) (rest := []) F G (mX11_thrown l D T aM zR rfl) (cwV 0 hAL (kgL_c kLl89 (kgL_c kLl90 (kgL_c kLl91 (kgL_c (kA kl788) (kgL_c (kA kl803) kgL_k))))) rfl rfl rfl (by decide +kernel) ⟨Nat.le_of_ble_eq_true rfl, Nat.le_of_ble_eq_true rfl⟩) (kg_recv G 0 0 (by decide) rfl (q := (RX11, TX11, 35)) rfl) (kCut_LM G) rfl hl.1 rfl (Nat.le_of_ble_eq_true rfl) dL_law_1423 ⟨kroom2 hcs.1 (Nat.le_of_ble_eq_true rfl), kroom2 hcs.2 (Nat.le_of_ble_eq_true rfl)⟩ (cN := cells + 2) (sN := slots + 12) ⟨rfl, rfl⟩ (fun H locs G => ?_)
    refine lv_iload F.1 F.2.1 dL_law_1426 (lv_at hl 1 rfl) ?_
    refine lv_icmp_eq (tgt := 1433) F.1 F.2.1 dL_law_1428 (by decide) (fun c => ?_) (fun c => absurd hthr c)
    refine lv_iload F.1 F.2.1 dL_law_1433 (lv_at hl 1 rfl) ?_
    refine lv_if_ne (tgt := 1450) F.1 F.2.1 dL_law_1435 (by decide) (fun c => absurd (by decide) c) (fun c => ?_)
    refine lv_aload_n F.1 F.2.1 dL_law_1438 rfl (lv_at hl 3 rfl) ?_
    refine lv_iconst (v := 0) F.1 F.2.1 dL_law_1439 (by decide) ?_
    refine kg_lald F G 1 0 (by decide) rfl (i := 0) (kin (by decide +kernel)) dL_law_1440 ?_
    refine lv_iload F.1 F.2.1 dL_law_1441 (lv_at hl 0 rfl) ?_
    refine lv_i2l (v := r.toInt64) F.1 F.2.1 dL_law_1443 rfl ?_
    refine W.lcmp F.1 F.2.1 dL_law_1444 ?_
    refine lv_if_eq (tgt := 1450) F.1 F.2.1 dL_law_1445 (by decide) (fun c => ?_) (fun c => absurd hcmp c)
    refine lv_goto (tgt := 1909) F.1 F.2.1 dL_law_1450 (by decide) ?_
    exact kk tx ps nm v vn hs wwR (vp_updL out 0 r.toInt64) zR _ _ _ hS G (lv_sub hl [2, 3, 4, 5, 6] rfl)
  · have hthr : zR 0 0 = 1 := hz
    refine kl_callSW (rv := some (.int 1)) (Wc := gO T aF aR aD aP aH aW aO tx ps nm v vn hs ww out) (W2 := gO T aF aR aD aP aH aW aO tx ps nm v vn hs wwR out) (Wn := gL T aF aR aD aP aH aW aO aM tx ps nm v vn hs wwR out z) (As := [.ref (aF 0), .int (xs (x4 + 1).toNatClampNeg), .int (xs (x4 + 2).toNatClampNeg), .ref aO]) (rest := []) F G (mL_sentIn l hst D T aF aR aD aP aH aW aO tx ps nm v vn hs ww out (xs (x4 + 1).toNatClampNeg) (xs (x4 + 2).toNatClampNeg) (k := 1) (outR := out) h1 (Or.inr ⟨rfl, rfl, rfl⟩)) (vx_cwSW 4 hAL (kgL_c kLl218 (kgL_c kLl219 (kgL_c kLl84 (kgL_c kLl220 kgL_a)))) rfl rfl rfl (by decide +kernel) ⟨Nat.le_of_ble_eq_true rfl, Nat.le_of_ble_eq_true rfl⟩) (kCut_LO G) rfl hl.1 rfl (Nat.le_of_ble_eq_true rfl) dL_law_1399 ⟨kroom1 hcs.1 (Nat.le_of_ble_eq_true rfl), kroom1 hcs.2 (Nat.le_of_ble_eq_true rfl)⟩ (cN := cells + 2) (sN := slots + 12) ⟨rfl, rfl⟩ (fun H locs G => ?_)
    refine lv_istore (lv' := [(5, .int 1), (4, .int x4), (3, .ref aO), (2, .ref (aM 0)), (1, .ref (aF 0)), (0, .ref b)]) F.1 F.2.1 dL_law_1402 hl (by decide) rfl (fun ls hl => ?_)
    refine lv_aload_n F.1 F.2.1 dL_law_1404 rfl (lv_at hl 3 rfl) ?_
    refine lv_aload_n F.1 F.2.1 dL_law_1405 rfl (lv_at hl 5 rfl) ?_
    refine lv_iload F.1 F.2.1 dL_law_1406 (lv_at hl 1 rfl) ?_
    refine lv_iconst (v := 1) F.1 F.2.1 dL_law_1408 (by decide) ?_
    refine lv_iadd F.1 F.2.1 dL_law_1409 ?_
    refine va_sld F.1 F.2.1 hX hbl hbA G.2.2.2.1 hi1 dL_law_1410 ?_
    refine lv_aload_n F.1 F.2.1 dL_law_1411 rfl (lv_at hl 5 rfl) ?_
    refine lv_iload F.1 F.2.1 dL_law_1412 (lv_at hl 1 rfl) ?_
    refine lv_iconst (v := 2) F.1 F.2.1 dL_law_1414 (by decide) ?_
    refine lv_iadd F.1 F.2.1 dL_law_1415 ?_
    refine va_sld F.1 F.2.1 hX hbl hbA G.2.2.2.1 hi2 dL_law_1416 ?_
    refine k_callVR (rv := _) (Wc := gM T aM z) (W2 := gM T aM zR) (Wn := gL T aF aR aD aP aH aW aO aM tx ps nm v vn hs wwR out zR) (As := [.int (xs (x4 + 1).toNatClampNeg), .int (xs (x4 + 2).toNatClampNeg)]) (rest := []) F G (mX11_sentIn l D T aM z (xs (x4 + 1).toNatClampNeg) (xs (x4 + 2).toNatClampNeg) h2) (cwV 2 hAL (kgL_c kLl221 (kgL_c kLl222 (kgL_c kLl223 (kgL_c (kA kl788) (kgL_c (kA kl1028) kgL_k))))) rfl rfl rfl (by decide +kernel) ⟨Nat.le_of_ble_eq_true rfl, Nat.le_of_ble_eq_true rfl⟩) (kg_recv G 0 0 (by decide) rfl (q := (RX11, TX11, 35)) rfl) (kCut_LM G) rfl hl.1 rfl (Nat.le_of_ble_eq_true rfl) dL_law_1417 ⟨kroom2 hcs.1 (Nat.le_of_ble_eq_true rfl), kroom2 hcs.2 (Nat.le_of_ble_eq_true rfl)⟩ (cN := cells + 2) (sN := slots + 12) ⟨rfl, rfl⟩ (fun H locs G => ?_)
    have hS := hSR
    refine lv_istore (lv' := [(6, .int b'), (5, .int 1), (4, .int x4), (3, .ref aO), (2, .ref (aM 0)), (1, .ref (aF 0)), (0, .ref b)]) F.1 F.2.1 dL_law_1420 hl (by decide) rfl (fun ls hl => ?_)
    refine lv_aload_n F.1 F.2.1 dL_law_1422 rfl (lv_at hl 4 rfl) ?_
    refine k_callVR (rv := (some (.int (zR 0 0)))) (Wc := gM T aM zR) (W2 := gM T aM zR) (Wn := gL T aF aR aD aP aH aW aO aM tx ps nm v vn hs wwR out zR) (As := []) (rest := []) F G (mX11_thrown l D T aM zR rfl) (cwV 0 hAL (kgL_c kLl89 (kgL_c kLl90 (kgL_c kLl91 (kgL_c (kA kl788) (kgL_c (kA kl803) kgL_k))))) rfl rfl rfl (by decide +kernel) ⟨Nat.le_of_ble_eq_true rfl, Nat.le_of_ble_eq_true rfl⟩) (kg_recv G 0 0 (by decide) rfl (q := (RX11, TX11, 35)) rfl) (kCut_LM G) rfl hl.1 rfl (Nat.le_of_ble_eq_true rfl) dL_law_1423 ⟨kroom2 hcs.1 (Nat.le_of_ble_eq_true rfl), kroom2 hcs.2 (Nat.le_of_ble_eq_true rfl)⟩ (cN := cells + 2) (sN := slots + 12) ⟨rfl, rfl⟩ (fun H locs G => ?_)
    refine lv_iload F.1 F.2.1 dL_law_1426 (lv_at hl 1 rfl) ?_
    refine lv_icmp_eq (tgt := 1433) F.1 F.2.1 dL_law_1428 (by decide) (fun c => ?_) (fun c => absurd hthr c)
    refine lv_iload F.1 F.2.1 dL_law_1433 (lv_at hl 1 rfl) ?_
    refine lv_if_ne (tgt := 1450) F.1 F.2.1 dL_law_1435 (by decide) (fun c => ?_) (fun c => absurd c (by decide))
    refine lv_goto (tgt := 1909) F.1 F.2.1 dL_law_1450 (by decide) ?_
    exact kk tx ps nm v vn hs wwR out zR _ _ _ hS G (lv_sub hl [2, 3, 4, 5, 6] rfl)
set_option maxHeartbeats 8000000 in
set_option maxRecDepth 100000 in
theorem lc_run {Sim : (Nat → Nat → Int32) → (Nat → Nat → Int32) → (Nat → Int64) → (Nat → Nat → Int32) → (Nat → Int64) → (Nat → Nat → Int32) → (Nat → Nat → Nat → Int32) → (Nat → Nat → Int32) → Prop} (Hs : St_run Sim) (hst : l.stackTraces = false) (F : CallFix p m c code 9 s args kAll RL) (hAL : ∀ w ∈ kAL, w.before args s = true) (hr : meth.sig.returnType = ret) (hlk : meth.locks = false) (hX : va_X b L xs s s.heap) (hbl : b < s.heap.size) (hbA : ¬ A b) {x4 : Int32} (hi1 : vp_in (x4 + 1) L) (hi2 : vp_in (x4 + 2) L) (hi3 : vp_in (x4 + 3) L) (hi4 : vp_in (x4 + 4) L) (hi5 : vp_in (x4 + 5) L) (hcs : cells + 2 ≤ 601024 ∧ slots + 12 ≤ 7293034) (hS : Sim tx ps nm v vn hs ww z)
    (kk : ∀ (tx : Nat → Nat → Int32) (ps : Nat → Nat → Int32) (nm : Nat → Int64) (v : Nat → Nat → Int32) (vn : Nat → Int64) (hs : Nat → Nat → Int32) (ww : Nat → Nat → Nat → Int32) (out : Nat → Int64) (z : Nat → Nat → Int32) (H : Heap) (locs : List Loc) (ls : Array Slot), Sim tx ps nm v vn hs ww z → Rg D T A s (gL T aF aR aD aP aH aW aO aM tx ps nm v vn hs ww out z) H locs → lv_has ls 9 [(4, .int x4), (3, .ref aO), (2, .ref (aM 0)), (1, .ref (aF 0)), (0, .ref b)] → W p l e room_1 s m args below meth c H locs (cells + 2) (slots + 12) Q (F0 m 1909 ls []))
    (G : Rg D T A s (gL T aF aR aD aP aH aW aO aM tx ps nm v vn hs ww out z) H locs) (hl : lv_has ls 9 [(4, .int x4), (3, .ref aO), (2, .ref (aM 0)), (1, .ref (aF 0)), (0, .ref b)]) : W p l e room_1 s m args below meth c H locs cells slots Q (F0 m 1453 ls []) := by
  refine lv_aload_n F.1 F.2.1 dL_law_1453 rfl (lv_at hl 3 rfl) ?_
  refine lv_aload_n F.1 F.2.1 dL_law_1454 rfl (lv_at hl 4 rfl) ?_
  refine lv_iload F.1 F.2.1 dL_law_1455 (lv_at hl 0 rfl) ?_
  refine lv_iconst (v := 1) F.1 F.2.1 dL_law_1457 (by decide) ?_
  refine lv_iadd F.1 F.2.1 dL_law_1458 ?_
  refine va_sld F.1 F.2.1 hX hbl hbA G.2.2.2.1 hi1 dL_law_1459 ?_
  refine lv_aload_n F.1 F.2.1 dL_law_1460 rfl (lv_at hl 1 rfl) ?_
  obtain ⟨e, r, hsR, wwR, b', zR, h1, h2, hd, hSR⟩ := Hs tx ps nm v vn hs ww z hS (xs (x4 + 1).toNatClampNeg)
  rcases hd with ⟨rfl, hz, rfl⟩ | ⟨rfl, hz⟩ | ⟨rfl, hz⟩
  · have hthr : zR 0 0 = 0 := hz
    refine kl_callSW (rv := some (.int 0)) (Wc := gO T aF aR aD aP aH aW aO tx ps nm v vn hs ww out) (W2 := gO T aF aR aD aP aH aW aO tx ps nm v vn hsR wwR (vp_updL out 0 r.toInt64)) (Wn := gL T aF aR aD aP aH aW aO aM tx ps nm v vn hsR wwR (vp_updL out 0 r.toInt64) z) (As := [.ref (aF 0), .int (xs (x4 + 1).toNatClampNeg), .ref aO]) (rest := []) F G (mL_run l hst D T aF aR aD aP aH aW aO tx ps nm v vn hs ww out (xs (x4 + 1).toNatClampNeg) (k := 0) (outR := (vp_updL out 0 r.toInt64)) h1 (Or.inl ⟨rfl, rfl, rfl⟩)) (vx_cwSW 3 hAL (kgL_c kLl224 (kgL_c kLl225 (kgL_c kLl84 (kgL_c kLl226 kgL_a)))) rfl rfl rfl (by decide +kernel) ⟨Nat.le_of_ble_eq_true rfl, Nat.le_of_ble_eq_true rfl⟩) (kCut_LO G) rfl hl.1 rfl (Nat.le_of_ble_eq_true rfl) dL_law_1461 ⟨kroom1 hcs.1 (Nat.le_of_ble_eq_true rfl), kroom1 hcs.2 (Nat.le_of_ble_eq_true rfl)⟩ (cN := cells + 2) (sN := slots + 12) ⟨rfl, rfl⟩ (fun H locs G => ?_)
    have hcmp : lg_cmp ((vp_updL out 0 r.toInt64) (0 : Int32).toNatClampNeg) r.toInt64 = 0 := lg_same _ _
    refine lv_istore (lv' := [(5, .int 0), (4, .int x4), (3, .ref aO), (2, .ref (aM 0)), (1, .ref (aF 0)), (0, .ref b)]) F.1 F.2.1 dL_law_1464 hl (by decide) rfl (fun ls hl => ?_)
    refine lv_aload_n F.1 F.2.1 dL_law_1466 rfl (lv_at hl 3 rfl) ?_
    refine lv_aload_n F.1 F.2.1 dL_law_1467 rfl (lv_at hl 5 rfl) ?_
    refine lv_iload F.1 F.2.1 dL_law_1468 (lv_at hl 1 rfl) ?_
    refine lv_iconst (v := 1) F.1 F.2.1 dL_law_1470 (by decide) ?_
    refine lv_iadd F.1 F.2.1 dL_law_1471 ?_
    refine va_sld F.1 F.2.1 hX hbl hbA G.2.2.2.1 hi1 dL_law_1472 ?_
    refine k_callVR (rv := _) (Wc := gM T aM z) (W2 := gM T aM zR) (Wn := gL T aF aR aD aP aH aW aO aM tx ps nm v vn hsR wwR (vp_updL out 0 r.toInt64) zR) (As := [.int (xs (x4 + 1).toNatClampNeg)]) (rest := []) F G (mX11_run l D T aM z (xs (x4 + 1).toNatClampNeg) h2) (cwV 1 hAL (kgL_c kLl227 (kgL_c kLl228 (kgL_c kLl229 (kgL_c (kA kl788) (kgL_c (kA kl1031) kgL_k))))) rfl rfl rfl (by decide +kernel) ⟨Nat.le_of_ble_eq_true rfl, Nat.le_of_ble_eq_true rfl⟩) (kg_recv G 0 0 (by decide) rfl (q := (RX11, TX11, 35)) rfl) (kCut_LM G) rfl hl.1 rfl (Nat.le_of_ble_eq_true rfl) dL_law_1473 ⟨kroom2 hcs.1 (Nat.le_of_ble_eq_true rfl), kroom2 hcs.2 (Nat.le_of_ble_eq_true rfl)⟩ (cN := cells + 2) (sN := slots + 12) ⟨rfl, rfl⟩ (fun H locs G => ?_)
    have hS := hSR
    refine lv_istore (lv' := [(6, .int r), (5, .int 0), (4, .int x4), (3, .ref aO), (2, .ref (aM 0)), (1, .ref (aF 0)), (0, .ref b)]) F.1 F.2.1 dL_law_1476 hl (by decide) rfl (fun ls hl => ?_)
    refine lv_aload_n F.1 F.2.1 dL_law_1478 rfl (lv_at hl 4 rfl) ?_
    refine k_callVR (rv := (some (.int (zR 0 0)))) (Wc := gM T aM zR) (W2 := gM T aM zR) (Wn := gL T aF aR aD aP aH aW aO aM tx ps nm v vn hsR wwR (vp_updL out 0 r.toInt64) zR) (As := []) (rest := []) F G (mX11_thrown l D T aM zR rfl) (cwV 0 hAL (kgL_c kLl89 (kgL_c kLl90 (kgL_c kLl91 (kgL_c (kA kl788) (kgL_c (kA kl803) kgL_k))))) rfl rfl rfl (by decide +kernel) ⟨Nat.le_of_ble_eq_true rfl, Nat.le_of_ble_eq_true rfl⟩) (kg_recv G 0 0 (by decide) rfl (q := (RX11, TX11, 35)) rfl) (kCut_LM G) rfl hl.1 rfl (Nat.le_of_ble_eq_true rfl) dL_law_1479 ⟨kroom2 hcs.1 (Nat.le_of_ble_eq_true rfl), kroom2 hcs.2 (Nat.le_of_ble_eq_true rfl)⟩ (cN := cells + 2) (sN := slots + 12) ⟨rfl, rfl⟩ (fun H locs G => ?_)
    refine lv_iload F.1 F.2.1 dL_law_1482 (lv_at hl 1 rfl) ?_
    refine lv_icmp_eq (tgt := 1489) F.1 F.2.1 dL_law_1484 (by decide) (fun c => ?_) (fun c => absurd hthr c)
    refine lv_iload F.1 F.2.1 dL_law_1489 (lv_at hl 1 rfl) ?_
    refine lv_if_ne (tgt := 1506) F.1 F.2.1 dL_law_1491 (by decide) (fun c => absurd (by decide) c) (fun c => ?_)
    refine lv_aload_n F.1 F.2.1 dL_law_1494 rfl (lv_at hl 3 rfl) ?_
    refine lv_iconst (v := 0) F.1 F.2.1 dL_law_1495 (by decide) ?_
    refine kg_lald F G 1 0 (by decide) rfl (i := 0) (kin (by decide +kernel)) dL_law_1496 ?_
    refine lv_iload F.1 F.2.1 dL_law_1497 (lv_at hl 0 rfl) ?_
    refine lv_i2l (v := r.toInt64) F.1 F.2.1 dL_law_1499 rfl ?_
    refine W.lcmp F.1 F.2.1 dL_law_1500 ?_
    refine lv_if_eq (tgt := 1506) F.1 F.2.1 dL_law_1501 (by decide) (fun c => ?_) (fun c => absurd hcmp c)
    refine lv_goto (tgt := 1909) F.1 F.2.1 dL_law_1506 (by decide) ?_
    exact kk tx ps nm v vn hsR wwR (vp_updL out 0 r.toInt64) zR _ _ _ hS G (lv_sub hl [2, 3, 4, 5, 6] rfl)
  · have hthr : zR 0 0 = 1 := hz
    refine kl_callSW (rv := some (.int 1)) (Wc := gO T aF aR aD aP aH aW aO tx ps nm v vn hs ww out) (W2 := gO T aF aR aD aP aH aW aO tx ps nm v vn hsR wwR out) (Wn := gL T aF aR aD aP aH aW aO aM tx ps nm v vn hsR wwR out z) (As := [.ref (aF 0), .int (xs (x4 + 1).toNatClampNeg), .ref aO]) (rest := []) F G (mL_run l hst D T aF aR aD aP aH aW aO tx ps nm v vn hs ww out (xs (x4 + 1).toNatClampNeg) (k := 1) (outR := out) h1 (Or.inr (Or.inl ⟨rfl, rfl, rfl⟩))) (vx_cwSW 3 hAL (kgL_c kLl224 (kgL_c kLl225 (kgL_c kLl84 (kgL_c kLl226 kgL_a)))) rfl rfl rfl (by decide +kernel) ⟨Nat.le_of_ble_eq_true rfl, Nat.le_of_ble_eq_true rfl⟩) (kCut_LO G) rfl hl.1 rfl (Nat.le_of_ble_eq_true rfl) dL_law_1461 ⟨kroom1 hcs.1 (Nat.le_of_ble_eq_true rfl), kroom1 hcs.2 (Nat.le_of_ble_eq_true rfl)⟩ (cN := cells + 2) (sN := slots + 12) ⟨rfl, rfl⟩ (fun H locs G => ?_)
    refine lv_istore (lv' := [(5, .int 1), (4, .int x4), (3, .ref aO), (2, .ref (aM 0)), (1, .ref (aF 0)), (0, .ref b)]) F.1 F.2.1 dL_law_1464 hl (by decide) rfl (fun ls hl => ?_)
    refine lv_aload_n F.1 F.2.1 dL_law_1466 rfl (lv_at hl 3 rfl) ?_
    refine lv_aload_n F.1 F.2.1 dL_law_1467 rfl (lv_at hl 5 rfl) ?_
    refine lv_iload F.1 F.2.1 dL_law_1468 (lv_at hl 1 rfl) ?_
    refine lv_iconst (v := 1) F.1 F.2.1 dL_law_1470 (by decide) ?_
    refine lv_iadd F.1 F.2.1 dL_law_1471 ?_
    refine va_sld F.1 F.2.1 hX hbl hbA G.2.2.2.1 hi1 dL_law_1472 ?_
    refine k_callVR (rv := _) (Wc := gM T aM z) (W2 := gM T aM zR) (Wn := gL T aF aR aD aP aH aW aO aM tx ps nm v vn hsR wwR out zR) (As := [.int (xs (x4 + 1).toNatClampNeg)]) (rest := []) F G (mX11_run l D T aM z (xs (x4 + 1).toNatClampNeg) h2) (cwV 1 hAL (kgL_c kLl227 (kgL_c kLl228 (kgL_c kLl229 (kgL_c (kA kl788) (kgL_c (kA kl1031) kgL_k))))) rfl rfl rfl (by decide +kernel) ⟨Nat.le_of_ble_eq_true rfl, Nat.le_of_ble_eq_true rfl⟩) (kg_recv G 0 0 (by decide) rfl (q := (RX11, TX11, 35)) rfl) (kCut_LM G) rfl hl.1 rfl (Nat.le_of_ble_eq_true rfl) dL_law_1473 ⟨kroom2 hcs.1 (Nat.le_of_ble_eq_true rfl), kroom2 hcs.2 (Nat.le_of_ble_eq_true rfl)⟩ (cN := cells + 2) (sN := slots + 12) ⟨rfl, rfl⟩ (fun H locs G => ?_)
    have hS := hSR
    refine lv_istore (lv' := [(6, .int b'), (5, .int 1), (4, .int x4), (3, .ref aO), (2, .ref (aM 0)), (1, .ref (aF 0)), (0, .ref b)]) F.1 F.2.1 dL_law_1476 hl (by decide) rfl (fun ls hl => ?_)
    refine lv_aload_n F.1 F.2.1 dL_law_1478 rfl (lv_at hl 4 rfl) ?_
    refine k_callVR (rv := (some (.int (zR 0 0)))) (Wc := gM T aM zR) (W2 := gM T aM zR) (Wn := gL T aF aR aD aP aH aW aO aM tx ps nm v vn hsR wwR out zR) (As := []) (rest := []) F G (mX11_thrown l D T aM zR rfl) (cwV 0 hAL (kgL_c kLl89 (kgL_c kLl90 (kgL_c kLl91 (kgL_c (kA kl788) (kgL_c (kA kl803) kgL_k))))) rfl rfl rfl (by decide +kernel) ⟨Nat.le_of_ble_eq_true rfl, Nat.le_of_ble_eq_true rfl⟩) (kg_recv G 0 0 (by decide) rfl (q := (RX11, TX11, 35)) rfl) (kCut_LM G) rfl hl.1 rfl (Nat.le_of_ble_eq_true rfl) dL_law_1479 ⟨kroom2 hcs.1 (Nat.le_of_ble_eq_true rfl), kroom2 hcs.2 (Nat.le_of_ble_eq_true rfl)⟩ (cN := cells + 2) (sN := slots + 12) ⟨rfl, rfl⟩ (fun H locs G => ?_)
    refine lv_iload F.1 F.2.1 dL_law_1482 (lv_at hl 1 rfl) ?_
    refine lv_icmp_eq (tgt := 1489) F.1 F.2.1 dL_law_1484 (by decide) (fun c => ?_) (fun c => absurd hthr c)
    refine lv_iload F.1 F.2.1 dL_law_1489 (lv_at hl 1 rfl) ?_
    refine lv_if_ne (tgt := 1506) F.1 F.2.1 dL_law_1491 (by decide) (fun c => ?_) (fun c => absurd c (by decide))
    refine lv_goto (tgt := 1909) F.1 F.2.1 dL_law_1506 (by decide) ?_
    exact kk tx ps nm v vn hsR wwR out zR _ _ _ hS G (lv_sub hl [2, 3, 4, 5, 6] rfl)
  · have hthr : zR 0 0 = 2 := hz
    refine kl_callSW (rv := some (.int 2)) (Wc := gO T aF aR aD aP aH aW aO tx ps nm v vn hs ww out) (W2 := gO T aF aR aD aP aH aW aO tx ps nm v vn hsR wwR out) (Wn := gL T aF aR aD aP aH aW aO aM tx ps nm v vn hsR wwR out z) (As := [.ref (aF 0), .int (xs (x4 + 1).toNatClampNeg), .ref aO]) (rest := []) F G (mL_run l hst D T aF aR aD aP aH aW aO tx ps nm v vn hs ww out (xs (x4 + 1).toNatClampNeg) (k := 2) (outR := out) h1 (Or.inr (Or.inr ⟨rfl, rfl, rfl⟩))) (vx_cwSW 3 hAL (kgL_c kLl224 (kgL_c kLl225 (kgL_c kLl84 (kgL_c kLl226 kgL_a)))) rfl rfl rfl (by decide +kernel) ⟨Nat.le_of_ble_eq_true rfl, Nat.le_of_ble_eq_true rfl⟩) (kCut_LO G) rfl hl.1 rfl (Nat.le_of_ble_eq_true rfl) dL_law_1461 ⟨kroom1 hcs.1 (Nat.le_of_ble_eq_true rfl), kroom1 hcs.2 (Nat.le_of_ble_eq_true rfl)⟩ (cN := cells + 2) (sN := slots + 12) ⟨rfl, rfl⟩ (fun H locs G => ?_)
    refine lv_istore (lv' := [(5, .int 2), (4, .int x4), (3, .ref aO), (2, .ref (aM 0)), (1, .ref (aF 0)), (0, .ref b)]) F.1 F.2.1 dL_law_1464 hl (by decide) rfl (fun ls hl => ?_)
    refine lv_aload_n F.1 F.2.1 dL_law_1466 rfl (lv_at hl 3 rfl) ?_
    refine lv_aload_n F.1 F.2.1 dL_law_1467 rfl (lv_at hl 5 rfl) ?_
    refine lv_iload F.1 F.2.1 dL_law_1468 (lv_at hl 1 rfl) ?_
    refine lv_iconst (v := 1) F.1 F.2.1 dL_law_1470 (by decide) ?_
    refine lv_iadd F.1 F.2.1 dL_law_1471 ?_
    refine va_sld F.1 F.2.1 hX hbl hbA G.2.2.2.1 hi1 dL_law_1472 ?_
    refine k_callVR (rv := _) (Wc := gM T aM z) (W2 := gM T aM zR) (Wn := gL T aF aR aD aP aH aW aO aM tx ps nm v vn hsR wwR out zR) (As := [.int (xs (x4 + 1).toNatClampNeg)]) (rest := []) F G (mX11_run l D T aM z (xs (x4 + 1).toNatClampNeg) h2) (cwV 1 hAL (kgL_c kLl227 (kgL_c kLl228 (kgL_c kLl229 (kgL_c (kA kl788) (kgL_c (kA kl1031) kgL_k))))) rfl rfl rfl (by decide +kernel) ⟨Nat.le_of_ble_eq_true rfl, Nat.le_of_ble_eq_true rfl⟩) (kg_recv G 0 0 (by decide) rfl (q := (RX11, TX11, 35)) rfl) (kCut_LM G) rfl hl.1 rfl (Nat.le_of_ble_eq_true rfl) dL_law_1473 ⟨kroom2 hcs.1 (Nat.le_of_ble_eq_true rfl), kroom2 hcs.2 (Nat.le_of_ble_eq_true rfl)⟩ (cN := cells + 2) (sN := slots + 12) ⟨rfl, rfl⟩ (fun H locs G => ?_)
    have hS := hSR
    refine lv_istore (lv' := [(6, .int b'), (5, .int 2), (4, .int x4), (3, .ref aO), (2, .ref (aM 0)), (1, .ref (aF 0)), (0, .ref b)]) F.1 F.2.1 dL_law_1476 hl (by decide) rfl (fun ls hl => ?_)
    refine lv_aload_n F.1 F.2.1 dL_law_1478 rfl (lv_at hl 4 rfl) ?_
    refine k_callVR (rv := (some (.int (zR 0 0)))) (Wc := gM T aM zR) (W2 := gM T aM zR) (Wn := gL T aF aR aD aP aH aW aO aM tx ps nm v vn hsR wwR out zR) (As := []) (rest := []) F G (mX11_thrown l D T aM zR rfl) (cwV 0 hAL (kgL_c kLl89 (kgL_c kLl90 (kgL_c kLl91 (kgL_c (kA kl788) (kgL_c (kA kl803) kgL_k))))) rfl rfl rfl (by decide +kernel) ⟨Nat.le_of_ble_eq_true rfl, Nat.le_of_ble_eq_true rfl⟩) (kg_recv G 0 0 (by decide) rfl (q := (RX11, TX11, 35)) rfl) (kCut_LM G) rfl hl.1 rfl (Nat.le_of_ble_eq_true rfl) dL_law_1479 ⟨kroom2 hcs.1 (Nat.le_of_ble_eq_true rfl), kroom2 hcs.2 (Nat.le_of_ble_eq_true rfl)⟩ (cN := cells + 2) (sN := slots + 12) ⟨rfl, rfl⟩ (fun H locs G => ?_)
    refine lv_iload F.1 F.2.1 dL_law_1482 (lv_at hl 1 rfl) ?_
    refine lv_icmp_eq (tgt := 1489) F.1 F.2.1 dL_law_1484 (by decide) (fun c => ?_) (fun c => absurd hthr c)
    refine lv_iload F.1 F.2.1 dL_law_1489 (lv_at hl 1 rfl) ?_
    refine lv_if_ne (tgt := 1506) F.1 F.2.1 dL_law_1491 (by decide) (fun c => ?_) (fun c => absurd c (by decide))
    refine lv_goto (tgt := 1909) F.1 F.2.1 dL_law_1506 (by decide) ?_
    exact kk tx ps nm v vn hsR wwR out zR _ _ _ hS G (lv_sub hl [2, 3, 4, 5, 6] rfl)
set_option maxHeartbeats 8000000 in
set_option maxRecDepth 100000 in
theorem lc_blackout {Sim : (Nat → Nat → Int32) → (Nat → Nat → Int32) → (Nat → Int64) → (Nat → Nat → Int32) → (Nat → Int64) → (Nat → Nat → Int32) → (Nat → Nat → Nat → Int32) → (Nat → Nat → Int32) → Prop} (Hs : St_blackout Sim) (hst : l.stackTraces = false) (F : CallFix p m c code 9 s args kAll RL) (hAL : ∀ w ∈ kAL, w.before args s = true) (hr : meth.sig.returnType = ret) (hlk : meth.locks = false) (hX : va_X b L xs s s.heap) (hbl : b < s.heap.size) (hbA : ¬ A b) {x4 : Int32} (hi1 : vp_in (x4 + 1) L) (hi2 : vp_in (x4 + 2) L) (hi3 : vp_in (x4 + 3) L) (hi4 : vp_in (x4 + 4) L) (hi5 : vp_in (x4 + 5) L) (hcs : cells + 2 ≤ 601024 ∧ slots + 12 ≤ 7293034) (hS : Sim tx ps nm v vn hs ww z)
    (kk : ∀ (tx : Nat → Nat → Int32) (ps : Nat → Nat → Int32) (nm : Nat → Int64) (v : Nat → Nat → Int32) (vn : Nat → Int64) (hs : Nat → Nat → Int32) (ww : Nat → Nat → Nat → Int32) (out : Nat → Int64) (z : Nat → Nat → Int32) (H : Heap) (locs : List Loc) (ls : Array Slot), Sim tx ps nm v vn hs ww z → Rg D T A s (gL T aF aR aD aP aH aW aO aM tx ps nm v vn hs ww out z) H locs → lv_has ls 9 [(4, .int x4), (3, .ref aO), (2, .ref (aM 0)), (1, .ref (aF 0)), (0, .ref b)] → W p l e room_1 s m args below meth c H locs (cells + 1) (slots + 6) Q (F0 m 1909 ls []))
    (G : Rg D T A s (gL T aF aR aD aP aH aW aO aM tx ps nm v vn hs ww out z) H locs) (hl : lv_has ls 9 [(4, .int x4), (3, .ref aO), (2, .ref (aM 0)), (1, .ref (aF 0)), (0, .ref b)]) : W p l e room_1 s m args below meth c H locs cells slots Q (F0 m 1509 ls []) := by
  refine lv_aload_n F.1 F.2.1 dL_law_1509 rfl (lv_at hl 3 rfl) ?_
  refine lv_aload_n F.1 F.2.1 dL_law_1510 rfl (lv_at hl 4 rfl) ?_
  refine lv_iload F.1 F.2.1 dL_law_1511 (lv_at hl 0 rfl) ?_
  refine lv_iconst (v := 1) F.1 F.2.1 dL_law_1513 (by decide) ?_
  refine lv_iadd F.1 F.2.1 dL_law_1514 ?_
  refine va_sld F.1 F.2.1 hX hbl hbA G.2.2.2.1 hi1 dL_law_1515 ?_
  refine lv_aload_n F.1 F.2.1 dL_law_1516 rfl (lv_at hl 1 rfl) ?_
  obtain ⟨e, r, hsR, wwR, b', zR, h1, h2, hd, hSR⟩ := Hs tx ps nm v vn hs ww z hS (xs (x4 + 1).toNatClampNeg)
  rcases hd with ⟨rfl, hz, rfl⟩ | ⟨rfl, hz⟩
  · have hthr : zR 0 0 = 0 := hz
    refine kl_callSW (rv := some (.int 0)) (Wc := gO T aF aR aD aP aH aW aO tx ps nm v vn hs ww out) (W2 := gO T aF aR aD aP aH aW aO tx ps nm v vn hsR wwR (vp_updL out 0 r.toInt64)) (Wn := gL T aF aR aD aP aH aW aO aM tx ps nm v vn hsR wwR (vp_updL out 0 r.toInt64) z) (As := [.ref (aF 0), .int (xs (x4 + 1).toNatClampNeg), .ref aO]) (rest := []) F G (mL_blackout l hst D T aF aR aD aP aH aW aO tx ps nm v vn hs ww out (xs (x4 + 1).toNatClampNeg) (k := 0) (outR := (vp_updL out 0 r.toInt64)) h1 (Or.inl ⟨rfl, rfl, rfl⟩)) (vx_cwSW 3 hAL (kgL_c kLl230 (kgL_c kLl231 (kgL_c kLl84 (kgL_c kLl232 kgL_a)))) rfl rfl rfl (by decide +kernel) ⟨Nat.le_of_ble_eq_true rfl, Nat.le_of_ble_eq_true rfl⟩) (kCut_LO G) rfl hl.1 rfl (Nat.le_of_ble_eq_true rfl) dL_law_1517 ⟨kroom1 hcs.1 (Nat.le_of_ble_eq_true rfl), kroom1 hcs.2 (Nat.le_of_ble_eq_true rfl)⟩ (cN := cells + 1) (sN := slots + 6) ⟨rfl, rfl⟩ (fun H locs G => ?_)
    have hcmp : lg_cmp ((vp_updL out 0 r.toInt64) (0 : Int32).toNatClampNeg) r.toInt64 = 0 := lg_same _ _
    refine lv_istore (lv' := [(5, .int 0), (4, .int x4), (3, .ref aO), (2, .ref (aM 0)), (1, .ref (aF 0)), (0, .ref b)]) F.1 F.2.1 dL_law_1520 hl (by decide) rfl (fun ls hl => ?_)
    refine lv_aload_n F.1 F.2.1 dL_law_1522 rfl (lv_at hl 3 rfl) ?_
    refine lv_aload_n F.1 F.2.1 dL_law_1523 rfl (lv_at hl 5 rfl) ?_
    refine lv_iload F.1 F.2.1 dL_law_1524 (lv_at hl 1 rfl) ?_
    refine lv_iconst (v := 1) F.1 F.2.1 dL_law_1526 (by decide) ?_
    refine lv_iadd F.1 F.2.1 dL_law_1527 ?_
    refine va_sld F.1 F.2.1 hX hbl hbA G.2.2.2.1 hi1 dL_law_1528 ?_
    refine k_callVR (rv := _) (Wc := gM T aM z) (W2 := gM T aM zR) (Wn := gL T aF aR aD aP aH aW aO aM tx ps nm v vn hsR wwR (vp_updL out 0 r.toInt64) zR) (As := [.int (xs (x4 + 1).toNatClampNeg)]) (rest := []) F G (mX11_blackout l D T aM z (xs (x4 + 1).toNatClampNeg) h2) (cwV 1 hAL (kgL_c kLl233 (kgL_c kLl234 (kgL_c kLl235 (kgL_c (kA kl788) (kgL_c (kA kl1036) kgL_k))))) rfl rfl rfl (by decide +kernel) ⟨Nat.le_of_ble_eq_true rfl, Nat.le_of_ble_eq_true rfl⟩) (kg_recv G 0 0 (by decide) rfl (q := (RX11, TX11, 35)) rfl) (kCut_LM G) rfl hl.1 rfl (Nat.le_of_ble_eq_true rfl) dL_law_1529 ⟨kroom2 hcs.1 (Nat.le_of_ble_eq_true rfl), kroom2 hcs.2 (Nat.le_of_ble_eq_true rfl)⟩ (cN := cells + 1) (sN := slots + 6) ⟨rfl, rfl⟩ (fun H locs G => ?_)
    have hS := hSR
    refine lv_istore (lv' := [(6, .int r), (5, .int 0), (4, .int x4), (3, .ref aO), (2, .ref (aM 0)), (1, .ref (aF 0)), (0, .ref b)]) F.1 F.2.1 dL_law_1532 hl (by decide) rfl (fun ls hl => ?_)
    refine lv_aload_n F.1 F.2.1 dL_law_1534 rfl (lv_at hl 4 rfl) ?_
    refine k_callVR (rv := (some (.int (zR 0 0)))) (Wc := gM T aM zR) (W2 := gM T aM zR) (Wn := gL T aF aR aD aP aH aW aO aM tx ps nm v vn hsR wwR (vp_updL out 0 r.toInt64) zR) (As := []) (rest := []) F G (mX11_thrown l D T aM zR rfl) (cwV 0 hAL (kgL_c kLl89 (kgL_c kLl90 (kgL_c kLl91 (kgL_c (kA kl788) (kgL_c (kA kl803) kgL_k))))) rfl rfl rfl (by decide +kernel) ⟨Nat.le_of_ble_eq_true rfl, Nat.le_of_ble_eq_true rfl⟩) (kg_recv G 0 0 (by decide) rfl (q := (RX11, TX11, 35)) rfl) (kCut_LM G) rfl hl.1 rfl (Nat.le_of_ble_eq_true rfl) dL_law_1535 ⟨kroom2 hcs.1 (Nat.le_of_ble_eq_true rfl), kroom2 hcs.2 (Nat.le_of_ble_eq_true rfl)⟩ (cN := cells + 1) (sN := slots + 6) ⟨rfl, rfl⟩ (fun H locs G => ?_)
    refine lv_iload F.1 F.2.1 dL_law_1538 (lv_at hl 1 rfl) ?_
    refine lv_icmp_eq (tgt := 1545) F.1 F.2.1 dL_law_1540 (by decide) (fun c => ?_) (fun c => absurd hthr c)
    refine lv_iload F.1 F.2.1 dL_law_1545 (lv_at hl 1 rfl) ?_
    refine lv_if_ne (tgt := 1562) F.1 F.2.1 dL_law_1547 (by decide) (fun c => absurd (by decide) c) (fun c => ?_)
    refine lv_aload_n F.1 F.2.1 dL_law_1550 rfl (lv_at hl 3 rfl) ?_
    refine lv_iconst (v := 0) F.1 F.2.1 dL_law_1551 (by decide) ?_
    refine kg_lald F G 1 0 (by decide) rfl (i := 0) (kin (by decide +kernel)) dL_law_1552 ?_
    refine lv_iload F.1 F.2.1 dL_law_1553 (lv_at hl 0 rfl) ?_
    refine lv_i2l (v := r.toInt64) F.1 F.2.1 dL_law_1555 rfl ?_
    refine W.lcmp F.1 F.2.1 dL_law_1556 ?_
    refine lv_if_eq (tgt := 1562) F.1 F.2.1 dL_law_1557 (by decide) (fun c => ?_) (fun c => absurd hcmp c)
    refine lv_goto (tgt := 1909) F.1 F.2.1 dL_law_1562 (by decide) ?_
    exact kk tx ps nm v vn hsR wwR (vp_updL out 0 r.toInt64) zR _ _ _ hS G (lv_sub hl [2, 3, 4, 5, 6] rfl)
  · have hthr : zR 0 0 = 1 := hz
    refine kl_callSW (rv := some (.int 1)) (Wc := gO T aF aR aD aP aH aW aO tx ps nm v vn hs ww out) (W2 := gO T aF aR aD aP aH aW aO tx ps nm v vn hsR wwR out) (Wn := gL T aF aR aD aP aH aW aO aM tx ps nm v vn hsR wwR out z) (As := [.ref (aF 0), .int (xs (x4 + 1).toNatClampNeg), .ref aO]) (rest := []) F G (mL_blackout l hst D T aF aR aD aP aH aW aO tx ps nm v vn hs ww out (xs (x4 + 1).toNatClampNeg) (k := 1) (outR := out) h1 (Or.inr ⟨rfl, rfl, rfl⟩)) (vx_cwSW 3 hAL (kgL_c kLl230 (kgL_c kLl231 (kgL_c kLl84 (kgL_c kLl232 kgL_a)))) rfl rfl rfl (by decide +kernel) ⟨Nat.le_of_ble_eq_true rfl, Nat.le_of_ble_eq_true rfl⟩) (kCut_LO G) rfl hl.1 rfl (Nat.le_of_ble_eq_true rfl) dL_law_1517 ⟨kroom1 hcs.1 (Nat.le_of_ble_eq_true rfl), kroom1 hcs.2 (Nat.le_of_ble_eq_true rfl)⟩ (cN := cells + 1) (sN := slots + 6) ⟨rfl, rfl⟩ (fun H locs G => ?_)
    refine lv_istore (lv' := [(5, .int 1), (4, .int x4), (3, .ref aO), (2, .ref (aM 0)), (1, .ref (aF 0)), (0, .ref b)]) F.1 F.2.1 dL_law_1520 hl (by decide) rfl (fun ls hl => ?_)
    refine lv_aload_n F.1 F.2.1 dL_law_1522 rfl (lv_at hl 3 rfl) ?_
    refine lv_aload_n F.1 F.2.1 dL_law_1523 rfl (lv_at hl 5 rfl) ?_
    refine lv_iload F.1 F.2.1 dL_law_1524 (lv_at hl 1 rfl) ?_
    refine lv_iconst (v := 1) F.1 F.2.1 dL_law_1526 (by decide) ?_
    refine lv_iadd F.1 F.2.1 dL_law_1527 ?_
    refine va_sld F.1 F.2.1 hX hbl hbA G.2.2.2.1 hi1 dL_law_1528 ?_
    refine k_callVR (rv := _) (Wc := gM T aM z) (W2 := gM T aM zR) (Wn := gL T aF aR aD aP aH aW aO aM tx ps nm v vn hsR wwR out zR) (As := [.int (xs (x4 + 1).toNatClampNeg)]) (rest := []) F G (mX11_blackout l D T aM z (xs (x4 + 1).toNatClampNeg) h2) (cwV 1 hAL (kgL_c kLl233 (kgL_c kLl234 (kgL_c kLl235 (kgL_c (kA kl788) (kgL_c (kA kl1036) kgL_k))))) rfl rfl rfl (by decide +kernel) ⟨Nat.le_of_ble_eq_true rfl, Nat.le_of_ble_eq_true rfl⟩) (kg_recv G 0 0 (by decide) rfl (q := (RX11, TX11, 35)) rfl) (kCut_LM G) rfl hl.1 rfl (Nat.le_of_ble_eq_true rfl) dL_law_1529 ⟨kroom2 hcs.1 (Nat.le_of_ble_eq_true rfl), kroom2 hcs.2 (Nat.le_of_ble_eq_true rfl)⟩ (cN := cells + 1) (sN := slots + 6) ⟨rfl, rfl⟩ (fun H locs G => ?_)
    have hS := hSR
    refine lv_istore (lv' := [(6, .int b'), (5, .int 1), (4, .int x4), (3, .ref aO), (2, .ref (aM 0)), (1, .ref (aF 0)), (0, .ref b)]) F.1 F.2.1 dL_law_1532 hl (by decide) rfl (fun ls hl => ?_)
    refine lv_aload_n F.1 F.2.1 dL_law_1534 rfl (lv_at hl 4 rfl) ?_
    refine k_callVR (rv := (some (.int (zR 0 0)))) (Wc := gM T aM zR) (W2 := gM T aM zR) (Wn := gL T aF aR aD aP aH aW aO aM tx ps nm v vn hsR wwR out zR) (As := []) (rest := []) F G (mX11_thrown l D T aM zR rfl) (cwV 0 hAL (kgL_c kLl89 (kgL_c kLl90 (kgL_c kLl91 (kgL_c (kA kl788) (kgL_c (kA kl803) kgL_k))))) rfl rfl rfl (by decide +kernel) ⟨Nat.le_of_ble_eq_true rfl, Nat.le_of_ble_eq_true rfl⟩) (kg_recv G 0 0 (by decide) rfl (q := (RX11, TX11, 35)) rfl) (kCut_LM G) rfl hl.1 rfl (Nat.le_of_ble_eq_true rfl) dL_law_1535 ⟨kroom2 hcs.1 (Nat.le_of_ble_eq_true rfl), kroom2 hcs.2 (Nat.le_of_ble_eq_true rfl)⟩ (cN := cells + 1) (sN := slots + 6) ⟨rfl, rfl⟩ (fun H locs G => ?_)
    refine lv_iload F.1 F.2.1 dL_law_1538 (lv_at hl 1 rfl) ?_
    refine lv_icmp_eq (tgt := 1545) F.1 F.2.1 dL_law_1540 (by decide) (fun c => ?_) (fun c => absurd hthr c)
    refine lv_iload F.1 F.2.1 dL_law_1545 (lv_at hl 1 rfl) ?_
    refine lv_if_ne (tgt := 1562) F.1 F.2.1 dL_law_1547 (by decide) (fun c => ?_) (fun c => absurd c (by decide))
    refine lv_goto (tgt := 1909) F.1 F.2.1 dL_law_1562 (by decide) ?_
    exact kk tx ps nm v vn hsR wwR out zR _ _ _ hS G (lv_sub hl [2, 3, 4, 5, 6] rfl)
set_option maxHeartbeats 8000000 in
set_option maxRecDepth 100000 in
theorem lc_want {Sim : (Nat → Nat → Int32) → (Nat → Nat → Int32) → (Nat → Int64) → (Nat → Nat → Int32) → (Nat → Int64) → (Nat → Nat → Int32) → (Nat → Nat → Nat → Int32) → (Nat → Nat → Int32) → Prop} (Hs : St_want Sim) (hst : l.stackTraces = false) (F : CallFix p m c code 9 s args kAll RL) (hAL : ∀ w ∈ kAL, w.before args s = true) (hr : meth.sig.returnType = ret) (hlk : meth.locks = false) (hX : va_X b L xs s s.heap) (hbl : b < s.heap.size) (hbA : ¬ A b) {x4 : Int32} (hi1 : vp_in (x4 + 1) L) (hi2 : vp_in (x4 + 2) L) (hi3 : vp_in (x4 + 3) L) (hi4 : vp_in (x4 + 4) L) (hi5 : vp_in (x4 + 5) L) (hcs : cells + 2 ≤ 601024 ∧ slots + 12 ≤ 7293034) (hS : Sim tx ps nm v vn hs ww z)
    (kk : ∀ (tx : Nat → Nat → Int32) (ps : Nat → Nat → Int32) (nm : Nat → Int64) (v : Nat → Nat → Int32) (vn : Nat → Int64) (hs : Nat → Nat → Int32) (ww : Nat → Nat → Nat → Int32) (out : Nat → Int64) (z : Nat → Nat → Int32) (H : Heap) (locs : List Loc) (ls : Array Slot), Sim tx ps nm v vn hs ww z → Rg D T A s (gL T aF aR aD aP aH aW aO aM tx ps nm v vn hs ww out z) H locs → lv_has ls 9 [(4, .int x4), (3, .ref aO), (2, .ref (aM 0)), (1, .ref (aF 0)), (0, .ref b)] → W p l e room_1 s m args below meth c H locs (cells + 1) (slots + 6) Q (F0 m 1909 ls []))
    (G : Rg D T A s (gL T aF aR aD aP aH aW aO aM tx ps nm v vn hs ww out z) H locs) (hl : lv_has ls 9 [(4, .int x4), (3, .ref aO), (2, .ref (aM 0)), (1, .ref (aF 0)), (0, .ref b)]) : W p l e room_1 s m args below meth c H locs cells slots Q (F0 m 1565 ls []) := by
  by_cases hb : xs (x4 + 2).toNatClampNeg = 0
  · skip
    refine lv_aload_n F.1 F.2.1 dL_law_1565 rfl (lv_at hl 3 rfl) ?_
    refine lv_aload_n F.1 F.2.1 dL_law_1566 rfl (lv_at hl 4 rfl) ?_
    refine lv_iload F.1 F.2.1 dL_law_1567 (lv_at hl 0 rfl) ?_
    refine lv_iconst (v := 1) F.1 F.2.1 dL_law_1569 (by decide) ?_
    refine lv_iadd F.1 F.2.1 dL_law_1570 ?_
    refine va_sld F.1 F.2.1 hX hbl hbA G.2.2.2.1 hi1 dL_law_1571 ?_
    refine lv_aload_n F.1 F.2.1 dL_law_1572 rfl (lv_at hl 4 rfl) ?_
    refine lv_iload F.1 F.2.1 dL_law_1573 (lv_at hl 0 rfl) ?_
    refine lv_iconst (v := 2) F.1 F.2.1 dL_law_1575 (by decide) ?_
    refine lv_iadd F.1 F.2.1 dL_law_1576 ?_
    refine va_sld F.1 F.2.1 hX hbl hbA G.2.2.2.1 hi2 dL_law_1577 ?_
    refine lv_if_eq (tgt := 1585) F.1 F.2.1 dL_law_1578 (by decide) (fun c => ?_) (fun c => absurd hb c)
    refine lv_iconst (v := 0) F.1 F.2.1 dL_law_1585 (by decide) ?_
    refine lv_aload_n F.1 F.2.1 dL_law_1586 rfl (lv_at hl 1 rfl) ?_
    obtain ⟨e, r, hsR, wwR, b', zR, h1, h2, hd, hSR⟩ := Hs tx ps nm v vn hs ww z hS (xs (x4 + 1).toNatClampNeg) 0 (Or.inl rfl)
    rcases hd with ⟨rfl, hz, rfl⟩ | ⟨rfl, hz⟩
    · have hthr : zR 0 0 = 0 := hz
      refine kl_callSW (rv := some (.int 0)) (Wc := gO T aF aR aD aP aH aW aO tx ps nm v vn hs ww out) (W2 := gO T aF aR aD aP aH aW aO tx ps nm v vn hsR wwR (vp_updL out 0 (if r = 0 then 0 else 1))) (Wn := gL T aF aR aD aP aH aW aO aM tx ps nm v vn hsR wwR (vp_updL out 0 (if r = 0 then 0 else 1)) z) (As := [.ref (aF 0), .int (xs (x4 + 1).toNatClampNeg), .int 0, .ref aO]) (rest := []) F G (mL_want l hst D T aF aR aD aP aH aW aO tx ps nm v vn hs ww out (xs (x4 + 1).toNatClampNeg) 0 (k := 0) (outR := (vp_updL out 0 (if r = 0 then 0 else 1))) h1 (Or.inl ⟨rfl, rfl, rfl⟩)) (vx_cwSW 4 hAL (kgL_c kLl236 (kgL_c kLl237 (kgL_c kLl84 (kgL_c kLl238 kgL_a)))) rfl rfl rfl (by decide +kernel) ⟨Nat.le_of_ble_eq_true rfl, Nat.le_of_ble_eq_true rfl⟩) (kCut_LO G) rfl hl.1 rfl (Nat.le_of_ble_eq_true rfl) dL_law_1587 ⟨kroom1 hcs.1 (Nat.le_of_ble_eq_true rfl), kroom1 hcs.2 (Nat.le_of_ble_eq_true rfl)⟩ (cN := cells + 1) (sN := slots + 6) ⟨rfl, rfl⟩ (fun H locs G => ?_)
      refine lv_istore (lv' := [(5, .int 0), (4, .int x4), (3, .ref aO), (2, .ref (aM 0)), (1, .ref (aF 0)), (0, .ref b)]) F.1 F.2.1 dL_law_1590 hl (by decide) rfl (fun ls hl => ?_)
      refine lv_aload_n F.1 F.2.1 dL_law_1592 rfl (lv_at hl 3 rfl) ?_
      refine lv_aload_n F.1 F.2.1 dL_law_1593 rfl (lv_at hl 5 rfl) ?_
      refine lv_iload F.1 F.2.1 dL_law_1594 (lv_at hl 1 rfl) ?_
      refine lv_iconst (v := 1) F.1 F.2.1 dL_law_1596 (by decide) ?_
      refine lv_iadd F.1 F.2.1 dL_law_1597 ?_
      refine va_sld F.1 F.2.1 hX hbl hbA G.2.2.2.1 hi1 dL_law_1598 ?_
      refine lv_aload_n F.1 F.2.1 dL_law_1599 rfl (lv_at hl 5 rfl) ?_
      refine lv_iload F.1 F.2.1 dL_law_1600 (lv_at hl 1 rfl) ?_
      refine lv_iconst (v := 2) F.1 F.2.1 dL_law_1602 (by decide) ?_
      refine lv_iadd F.1 F.2.1 dL_law_1603 ?_
      refine va_sld F.1 F.2.1 hX hbl hbA G.2.2.2.1 hi2 dL_law_1604 ?_
      refine lv_if_eq (tgt := 1612) F.1 F.2.1 dL_law_1605 (by decide) (fun c => ?_) (fun c => absurd hb c)
      refine lv_iconst (v := 0) F.1 F.2.1 dL_law_1612 (by decide) ?_
      refine k_callVR (rv := _) (Wc := gM T aM z) (W2 := gM T aM zR) (Wn := gL T aF aR aD aP aH aW aO aM tx ps nm v vn hsR wwR (vp_updL out 0 (if r = 0 then 0 else 1)) zR) (As := [.int (xs (x4 + 1).toNatClampNeg), .int 0]) (rest := []) F G (mX11_want l D T aM z (xs (x4 + 1).toNatClampNeg) 0 h2) (cwV 2 hAL (kgL_c kLl239 (kgL_c kLl240 (kgL_c kLl241 (kgL_c (kA kl788) (kgL_c (kA kl1038) kgL_k))))) rfl rfl rfl (by decide +kernel) ⟨Nat.le_of_ble_eq_true rfl, Nat.le_of_ble_eq_true rfl⟩) (kg_recv G 0 0 (by decide) rfl (q := (RX11, TX11, 35)) rfl) (kCut_LM G) rfl hl.1 rfl (Nat.le_of_ble_eq_true rfl) dL_law_1613 ⟨kroom2 hcs.1 (Nat.le_of_ble_eq_true rfl), kroom2 hcs.2 (Nat.le_of_ble_eq_true rfl)⟩ (cN := cells + 1) (sN := slots + 6) ⟨rfl, rfl⟩ (fun H locs G => ?_)
      have hS := hSR
      refine lv_istore (lv' := [(6, .int r), (5, .int 0), (4, .int x4), (3, .ref aO), (2, .ref (aM 0)), (1, .ref (aF 0)), (0, .ref b)]) F.1 F.2.1 dL_law_1616 hl (by decide) rfl (fun ls hl => ?_)
      refine lv_aload_n F.1 F.2.1 dL_law_1618 rfl (lv_at hl 4 rfl) ?_
      refine k_callVR (rv := (some (.int (zR 0 0)))) (Wc := gM T aM zR) (W2 := gM T aM zR) (Wn := gL T aF aR aD aP aH aW aO aM tx ps nm v vn hsR wwR (vp_updL out 0 (if r = 0 then 0 else 1)) zR) (As := []) (rest := []) F G (mX11_thrown l D T aM zR rfl) (cwV 0 hAL (kgL_c kLl89 (kgL_c kLl90 (kgL_c kLl91 (kgL_c (kA kl788) (kgL_c (kA kl803) kgL_k))))) rfl rfl rfl (by decide +kernel) ⟨Nat.le_of_ble_eq_true rfl, Nat.le_of_ble_eq_true rfl⟩) (kg_recv G 0 0 (by decide) rfl (q := (RX11, TX11, 35)) rfl) (kCut_LM G) rfl hl.1 rfl (Nat.le_of_ble_eq_true rfl) dL_law_1619 ⟨kroom2 hcs.1 (Nat.le_of_ble_eq_true rfl), kroom2 hcs.2 (Nat.le_of_ble_eq_true rfl)⟩ (cN := cells + 1) (sN := slots + 6) ⟨rfl, rfl⟩ (fun H locs G => ?_)
      refine lv_iload F.1 F.2.1 dL_law_1622 (lv_at hl 1 rfl) ?_
      refine lv_icmp_eq (tgt := 1629) F.1 F.2.1 dL_law_1624 (by decide) (fun c => ?_) (fun c => absurd hthr c)
      refine lv_iload F.1 F.2.1 dL_law_1629 (lv_at hl 1 rfl) ?_
      refine lv_if_ne (tgt := 1653) F.1 F.2.1 dL_law_1631 (by decide) (fun c => absurd (by decide) c) (fun c => ?_)
      refine lv_aload_n F.1 F.2.1 dL_law_1634 rfl (lv_at hl 3 rfl) ?_
      refine lv_iconst (v := 0) F.1 F.2.1 dL_law_1635 (by decide) ?_
      refine kg_lald F G 1 0 (by decide) rfl (i := 0) (kin (by decide +kernel)) dL_law_1636 ?_
      refine lv_iload F.1 F.2.1 dL_law_1637 (lv_at hl 0 rfl) ?_
      by_cases hb2 : r = 0
      · skip
        have hcmp : lg_cmp (vp_updL out 0 (if r = 0 then 0 else 1) (0 : Int32).toNatClampNeg) 0 = 0 := by rw [if_pos hb2]; exact lg_same _ _
        refine lv_if_eq (tgt := 1646) F.1 F.2.1 dL_law_1639 (by decide) (fun c => ?_) (fun c => absurd hb2 c)
        refine lv_lconst (v := 0) F.1 F.2.1 dL_law_1646 (by decide) ?_
        refine W.lcmp F.1 F.2.1 dL_law_1647 ?_
        refine lv_if_eq (tgt := 1653) F.1 F.2.1 dL_law_1648 (by decide) (fun c => ?_) (fun c => absurd hcmp c)
        refine lv_goto (tgt := 1909) F.1 F.2.1 dL_law_1653 (by decide) ?_
        exact kk tx ps nm v vn hsR wwR (vp_updL out 0 (if r = 0 then 0 else 1)) zR _ _ _ hS G (lv_sub hl [2, 3, 4, 5, 6] rfl)
      · skip
        have hcmp : lg_cmp (vp_updL out 0 (if r = 0 then 0 else 1) (0 : Int32).toNatClampNeg) 1 = 0 := by rw [if_neg hb2]; exact lg_same _ _
        refine lv_if_eq (tgt := 1646) F.1 F.2.1 dL_law_1639 (by decide) (fun c => absurd c hb2) (fun c => ?_)
        refine lv_lconst (v := 1) F.1 F.2.1 dL_law_1642 (by decide) ?_
        refine lv_goto (tgt := 1647) F.1 F.2.1 dL_law_1643 (by decide) ?_
        refine W.lcmp F.1 F.2.1 dL_law_1647 ?_
        refine lv_if_eq (tgt := 1653) F.1 F.2.1 dL_law_1648 (by decide) (fun c => ?_) (fun c => absurd hcmp c)
        refine lv_goto (tgt := 1909) F.1 F.2.1 dL_law_1653 (by decide) ?_
        exact kk tx ps nm v vn hsR wwR (vp_updL out 0 (if r = 0 then 0 else 1)) zR _ _ _ hS G (lv_sub hl [2, 3, 4, 5, 6] rfl)
    · have hthr : zR 0 0 = 1 := hz
      refine kl_callSW (rv := some (.int 1)) (Wc := gO T aF aR aD aP aH aW aO tx ps nm v vn hs ww out) (W2 := gO T aF aR aD aP aH aW aO tx ps nm v vn hsR wwR out) (Wn := gL T aF aR aD aP aH aW aO aM tx ps nm v vn hsR wwR out z) (As := [.ref (aF 0), .int (xs (x4 + 1).toNatClampNeg), .int 0, .ref aO]) (rest := []) F G (mL_want l hst D T aF aR aD aP aH aW aO tx ps nm v vn hs ww out (xs (x4 + 1).toNatClampNeg) 0 (k := 1) (outR := out) h1 (Or.inr ⟨rfl, rfl, rfl⟩)) (vx_cwSW 4 hAL (kgL_c kLl236 (kgL_c kLl237 (kgL_c kLl84 (kgL_c kLl238 kgL_a)))) rfl rfl rfl (by decide +kernel) ⟨Nat.le_of_ble_eq_true rfl, Nat.le_of_ble_eq_true rfl⟩) (kCut_LO G) rfl hl.1 rfl (Nat.le_of_ble_eq_true rfl) dL_law_1587 ⟨kroom1 hcs.1 (Nat.le_of_ble_eq_true rfl), kroom1 hcs.2 (Nat.le_of_ble_eq_true rfl)⟩ (cN := cells + 1) (sN := slots + 6) ⟨rfl, rfl⟩ (fun H locs G => ?_)
      refine lv_istore (lv' := [(5, .int 1), (4, .int x4), (3, .ref aO), (2, .ref (aM 0)), (1, .ref (aF 0)), (0, .ref b)]) F.1 F.2.1 dL_law_1590 hl (by decide) rfl (fun ls hl => ?_)
      refine lv_aload_n F.1 F.2.1 dL_law_1592 rfl (lv_at hl 3 rfl) ?_
      refine lv_aload_n F.1 F.2.1 dL_law_1593 rfl (lv_at hl 5 rfl) ?_
      refine lv_iload F.1 F.2.1 dL_law_1594 (lv_at hl 1 rfl) ?_
      refine lv_iconst (v := 1) F.1 F.2.1 dL_law_1596 (by decide) ?_
      refine lv_iadd F.1 F.2.1 dL_law_1597 ?_
      refine va_sld F.1 F.2.1 hX hbl hbA G.2.2.2.1 hi1 dL_law_1598 ?_
      refine lv_aload_n F.1 F.2.1 dL_law_1599 rfl (lv_at hl 5 rfl) ?_
      refine lv_iload F.1 F.2.1 dL_law_1600 (lv_at hl 1 rfl) ?_
      refine lv_iconst (v := 2) F.1 F.2.1 dL_law_1602 (by decide) ?_
      refine lv_iadd F.1 F.2.1 dL_law_1603 ?_
      refine va_sld F.1 F.2.1 hX hbl hbA G.2.2.2.1 hi2 dL_law_1604 ?_
      refine lv_if_eq (tgt := 1612) F.1 F.2.1 dL_law_1605 (by decide) (fun c => ?_) (fun c => absurd hb c)
      refine lv_iconst (v := 0) F.1 F.2.1 dL_law_1612 (by decide) ?_
      refine k_callVR (rv := _) (Wc := gM T aM z) (W2 := gM T aM zR) (Wn := gL T aF aR aD aP aH aW aO aM tx ps nm v vn hsR wwR out zR) (As := [.int (xs (x4 + 1).toNatClampNeg), .int 0]) (rest := []) F G (mX11_want l D T aM z (xs (x4 + 1).toNatClampNeg) 0 h2) (cwV 2 hAL (kgL_c kLl239 (kgL_c kLl240 (kgL_c kLl241 (kgL_c (kA kl788) (kgL_c (kA kl1038) kgL_k))))) rfl rfl rfl (by decide +kernel) ⟨Nat.le_of_ble_eq_true rfl, Nat.le_of_ble_eq_true rfl⟩) (kg_recv G 0 0 (by decide) rfl (q := (RX11, TX11, 35)) rfl) (kCut_LM G) rfl hl.1 rfl (Nat.le_of_ble_eq_true rfl) dL_law_1613 ⟨kroom2 hcs.1 (Nat.le_of_ble_eq_true rfl), kroom2 hcs.2 (Nat.le_of_ble_eq_true rfl)⟩ (cN := cells + 1) (sN := slots + 6) ⟨rfl, rfl⟩ (fun H locs G => ?_)
      have hS := hSR
      refine lv_istore (lv' := [(6, .int b'), (5, .int 1), (4, .int x4), (3, .ref aO), (2, .ref (aM 0)), (1, .ref (aF 0)), (0, .ref b)]) F.1 F.2.1 dL_law_1616 hl (by decide) rfl (fun ls hl => ?_)
      refine lv_aload_n F.1 F.2.1 dL_law_1618 rfl (lv_at hl 4 rfl) ?_
      refine k_callVR (rv := (some (.int (zR 0 0)))) (Wc := gM T aM zR) (W2 := gM T aM zR) (Wn := gL T aF aR aD aP aH aW aO aM tx ps nm v vn hsR wwR out zR) (As := []) (rest := []) F G (mX11_thrown l D T aM zR rfl) (cwV 0 hAL (kgL_c kLl89 (kgL_c kLl90 (kgL_c kLl91 (kgL_c (kA kl788) (kgL_c (kA kl803) kgL_k))))) rfl rfl rfl (by decide +kernel) ⟨Nat.le_of_ble_eq_true rfl, Nat.le_of_ble_eq_true rfl⟩) (kg_recv G 0 0 (by decide) rfl (q := (RX11, TX11, 35)) rfl) (kCut_LM G) rfl hl.1 rfl (Nat.le_of_ble_eq_true rfl) dL_law_1619 ⟨kroom2 hcs.1 (Nat.le_of_ble_eq_true rfl), kroom2 hcs.2 (Nat.le_of_ble_eq_true rfl)⟩ (cN := cells + 1) (sN := slots + 6) ⟨rfl, rfl⟩ (fun H locs G => ?_)
      refine lv_iload F.1 F.2.1 dL_law_1622 (lv_at hl 1 rfl) ?_
      refine lv_icmp_eq (tgt := 1629) F.1 F.2.1 dL_law_1624 (by decide) (fun c => ?_) (fun c => absurd hthr c)
      refine lv_iload F.1 F.2.1 dL_law_1629 (lv_at hl 1 rfl) ?_
      refine lv_if_ne (tgt := 1653) F.1 F.2.1 dL_law_1631 (by decide) (fun c => ?_) (fun c => absurd c (by decide))
      refine lv_goto (tgt := 1909) F.1 F.2.1 dL_law_1653 (by decide) ?_
      exact kk tx ps nm v vn hsR wwR out zR _ _ _ hS G (lv_sub hl [2, 3, 4, 5, 6] rfl)
  · skip
    refine lv_aload_n F.1 F.2.1 dL_law_1565 rfl (lv_at hl 3 rfl) ?_
    refine lv_aload_n F.1 F.2.1 dL_law_1566 rfl (lv_at hl 4 rfl) ?_
    refine lv_iload F.1 F.2.1 dL_law_1567 (lv_at hl 0 rfl) ?_
    refine lv_iconst (v := 1) F.1 F.2.1 dL_law_1569 (by decide) ?_
    refine lv_iadd F.1 F.2.1 dL_law_1570 ?_
    refine va_sld F.1 F.2.1 hX hbl hbA G.2.2.2.1 hi1 dL_law_1571 ?_
    refine lv_aload_n F.1 F.2.1 dL_law_1572 rfl (lv_at hl 4 rfl) ?_
    refine lv_iload F.1 F.2.1 dL_law_1573 (lv_at hl 0 rfl) ?_
    refine lv_iconst (v := 2) F.1 F.2.1 dL_law_1575 (by decide) ?_
    refine lv_iadd F.1 F.2.1 dL_law_1576 ?_
    refine va_sld F.1 F.2.1 hX hbl hbA G.2.2.2.1 hi2 dL_law_1577 ?_
    refine lv_if_eq (tgt := 1585) F.1 F.2.1 dL_law_1578 (by decide) (fun c => absurd c hb) (fun c => ?_)
    refine lv_iconst (v := 1) F.1 F.2.1 dL_law_1581 (by decide) ?_
    refine lv_goto (tgt := 1586) F.1 F.2.1 dL_law_1582 (by decide) ?_
    refine lv_aload_n F.1 F.2.1 dL_law_1586 rfl (lv_at hl 1 rfl) ?_
    obtain ⟨e, r, hsR, wwR, b', zR, h1, h2, hd, hSR⟩ := Hs tx ps nm v vn hs ww z hS (xs (x4 + 1).toNatClampNeg) 1 (Or.inr rfl)
    rcases hd with ⟨rfl, hz, rfl⟩ | ⟨rfl, hz⟩
    · have hthr : zR 0 0 = 0 := hz
      refine kl_callSW (rv := some (.int 0)) (Wc := gO T aF aR aD aP aH aW aO tx ps nm v vn hs ww out) (W2 := gO T aF aR aD aP aH aW aO tx ps nm v vn hsR wwR (vp_updL out 0 (if r = 0 then 0 else 1))) (Wn := gL T aF aR aD aP aH aW aO aM tx ps nm v vn hsR wwR (vp_updL out 0 (if r = 0 then 0 else 1)) z) (As := [.ref (aF 0), .int (xs (x4 + 1).toNatClampNeg), .int 1, .ref aO]) (rest := []) F G (mL_want l hst D T aF aR aD aP aH aW aO tx ps nm v vn hs ww out (xs (x4 + 1).toNatClampNeg) 1 (k := 0) (outR := (vp_updL out 0 (if r = 0 then 0 else 1))) h1 (Or.inl ⟨rfl, rfl, rfl⟩)) (vx_cwSW 4 hAL (kgL_c kLl236 (kgL_c kLl237 (kgL_c kLl84 (kgL_c kLl238 kgL_a)))) rfl rfl rfl (by decide +kernel) ⟨Nat.le_of_ble_eq_true rfl, Nat.le_of_ble_eq_true rfl⟩) (kCut_LO G) rfl hl.1 rfl (Nat.le_of_ble_eq_true rfl) dL_law_1587 ⟨kroom1 hcs.1 (Nat.le_of_ble_eq_true rfl), kroom1 hcs.2 (Nat.le_of_ble_eq_true rfl)⟩ (cN := cells + 1) (sN := slots + 6) ⟨rfl, rfl⟩ (fun H locs G => ?_)
      refine lv_istore (lv' := [(5, .int 0), (4, .int x4), (3, .ref aO), (2, .ref (aM 0)), (1, .ref (aF 0)), (0, .ref b)]) F.1 F.2.1 dL_law_1590 hl (by decide) rfl (fun ls hl => ?_)
      refine lv_aload_n F.1 F.2.1 dL_law_1592 rfl (lv_at hl 3 rfl) ?_
      refine lv_aload_n F.1 F.2.1 dL_law_1593 rfl (lv_at hl 5 rfl) ?_
      refine lv_iload F.1 F.2.1 dL_law_1594 (lv_at hl 1 rfl) ?_
      refine lv_iconst (v := 1) F.1 F.2.1 dL_law_1596 (by decide) ?_
      refine lv_iadd F.1 F.2.1 dL_law_1597 ?_
      refine va_sld F.1 F.2.1 hX hbl hbA G.2.2.2.1 hi1 dL_law_1598 ?_
      refine lv_aload_n F.1 F.2.1 dL_law_1599 rfl (lv_at hl 5 rfl) ?_
      refine lv_iload F.1 F.2.1 dL_law_1600 (lv_at hl 1 rfl) ?_
      refine lv_iconst (v := 2) F.1 F.2.1 dL_law_1602 (by decide) ?_
      refine lv_iadd F.1 F.2.1 dL_law_1603 ?_
      refine va_sld F.1 F.2.1 hX hbl hbA G.2.2.2.1 hi2 dL_law_1604 ?_
      refine lv_if_eq (tgt := 1612) F.1 F.2.1 dL_law_1605 (by decide) (fun c => absurd c hb) (fun c => ?_)
      refine lv_iconst (v := 1) F.1 F.2.1 dL_law_1608 (by decide) ?_
      refine lv_goto (tgt := 1613) F.1 F.2.1 dL_law_1609 (by decide) ?_
      refine k_callVR (rv := _) (Wc := gM T aM z) (W2 := gM T aM zR) (Wn := gL T aF aR aD aP aH aW aO aM tx ps nm v vn hsR wwR (vp_updL out 0 (if r = 0 then 0 else 1)) zR) (As := [.int (xs (x4 + 1).toNatClampNeg), .int 1]) (rest := []) F G (mX11_want l D T aM z (xs (x4 + 1).toNatClampNeg) 1 h2) (cwV 2 hAL (kgL_c kLl239 (kgL_c kLl240 (kgL_c kLl241 (kgL_c (kA kl788) (kgL_c (kA kl1038) kgL_k))))) rfl rfl rfl (by decide +kernel) ⟨Nat.le_of_ble_eq_true rfl, Nat.le_of_ble_eq_true rfl⟩) (kg_recv G 0 0 (by decide) rfl (q := (RX11, TX11, 35)) rfl) (kCut_LM G) rfl hl.1 rfl (Nat.le_of_ble_eq_true rfl) dL_law_1613 ⟨kroom2 hcs.1 (Nat.le_of_ble_eq_true rfl), kroom2 hcs.2 (Nat.le_of_ble_eq_true rfl)⟩ (cN := cells + 1) (sN := slots + 6) ⟨rfl, rfl⟩ (fun H locs G => ?_)
      have hS := hSR
      refine lv_istore (lv' := [(6, .int r), (5, .int 0), (4, .int x4), (3, .ref aO), (2, .ref (aM 0)), (1, .ref (aF 0)), (0, .ref b)]) F.1 F.2.1 dL_law_1616 hl (by decide) rfl (fun ls hl => ?_)
      refine lv_aload_n F.1 F.2.1 dL_law_1618 rfl (lv_at hl 4 rfl) ?_
      refine k_callVR (rv := (some (.int (zR 0 0)))) (Wc := gM T aM zR) (W2 := gM T aM zR) (Wn := gL T aF aR aD aP aH aW aO aM tx ps nm v vn hsR wwR (vp_updL out 0 (if r = 0 then 0 else 1)) zR) (As := []) (rest := []) F G (mX11_thrown l D T aM zR rfl) (cwV 0 hAL (kgL_c kLl89 (kgL_c kLl90 (kgL_c kLl91 (kgL_c (kA kl788) (kgL_c (kA kl803) kgL_k))))) rfl rfl rfl (by decide +kernel) ⟨Nat.le_of_ble_eq_true rfl, Nat.le_of_ble_eq_true rfl⟩) (kg_recv G 0 0 (by decide) rfl (q := (RX11, TX11, 35)) rfl) (kCut_LM G) rfl hl.1 rfl (Nat.le_of_ble_eq_true rfl) dL_law_1619 ⟨kroom2 hcs.1 (Nat.le_of_ble_eq_true rfl), kroom2 hcs.2 (Nat.le_of_ble_eq_true rfl)⟩ (cN := cells + 1) (sN := slots + 6) ⟨rfl, rfl⟩ (fun H locs G => ?_)
      refine lv_iload F.1 F.2.1 dL_law_1622 (lv_at hl 1 rfl) ?_
      refine lv_icmp_eq (tgt := 1629) F.1 F.2.1 dL_law_1624 (by decide) (fun c => ?_) (fun c => absurd hthr c)
      refine lv_iload F.1 F.2.1 dL_law_1629 (lv_at hl 1 rfl) ?_
      refine lv_if_ne (tgt := 1653) F.1 F.2.1 dL_law_1631 (by decide) (fun c => absurd (by decide) c) (fun c => ?_)
      refine lv_aload_n F.1 F.2.1 dL_law_1634 rfl (lv_at hl 3 rfl) ?_
      refine lv_iconst (v := 0) F.1 F.2.1 dL_law_1635 (by decide) ?_
      refine kg_lald F G 1 0 (by decide) rfl (i := 0) (kin (by decide +kernel)) dL_law_1636 ?_
      refine lv_iload F.1 F.2.1 dL_law_1637 (lv_at hl 0 rfl) ?_
      by_cases hb2 : r = 0
      · skip
        have hcmp : lg_cmp (vp_updL out 0 (if r = 0 then 0 else 1) (0 : Int32).toNatClampNeg) 0 = 0 := by rw [if_pos hb2]; exact lg_same _ _
        refine lv_if_eq (tgt := 1646) F.1 F.2.1 dL_law_1639 (by decide) (fun c => ?_) (fun c => absurd hb2 c)
        refine lv_lconst (v := 0) F.1 F.2.1 dL_law_1646 (by decide) ?_
        refine W.lcmp F.1 F.2.1 dL_law_1647 ?_
        refine lv_if_eq (tgt := 1653) F.1 F.2.1 dL_law_1648 (by decide) (fun c => ?_) (fun c => absurd hcmp c)
        refine lv_goto (tgt := 1909) F.1 F.2.1 dL_law_1653 (by decide) ?_
        exact kk tx ps nm v vn hsR wwR (vp_updL out 0 (if r = 0 then 0 else 1)) zR _ _ _ hS G (lv_sub hl [2, 3, 4, 5, 6] rfl)
      · skip
        have hcmp : lg_cmp (vp_updL out 0 (if r = 0 then 0 else 1) (0 : Int32).toNatClampNeg) 1 = 0 := by rw [if_neg hb2]; exact lg_same _ _
        refine lv_if_eq (tgt := 1646) F.1 F.2.1 dL_law_1639 (by decide) (fun c => absurd c hb2) (fun c => ?_)
        refine lv_lconst (v := 1) F.1 F.2.1 dL_law_1642 (by decide) ?_
        refine lv_goto (tgt := 1647) F.1 F.2.1 dL_law_1643 (by decide) ?_
        refine W.lcmp F.1 F.2.1 dL_law_1647 ?_
        refine lv_if_eq (tgt := 1653) F.1 F.2.1 dL_law_1648 (by decide) (fun c => ?_) (fun c => absurd hcmp c)
        refine lv_goto (tgt := 1909) F.1 F.2.1 dL_law_1653 (by decide) ?_
        exact kk tx ps nm v vn hsR wwR (vp_updL out 0 (if r = 0 then 0 else 1)) zR _ _ _ hS G (lv_sub hl [2, 3, 4, 5, 6] rfl)
    · have hthr : zR 0 0 = 1 := hz
      refine kl_callSW (rv := some (.int 1)) (Wc := gO T aF aR aD aP aH aW aO tx ps nm v vn hs ww out) (W2 := gO T aF aR aD aP aH aW aO tx ps nm v vn hsR wwR out) (Wn := gL T aF aR aD aP aH aW aO aM tx ps nm v vn hsR wwR out z) (As := [.ref (aF 0), .int (xs (x4 + 1).toNatClampNeg), .int 1, .ref aO]) (rest := []) F G (mL_want l hst D T aF aR aD aP aH aW aO tx ps nm v vn hs ww out (xs (x4 + 1).toNatClampNeg) 1 (k := 1) (outR := out) h1 (Or.inr ⟨rfl, rfl, rfl⟩)) (vx_cwSW 4 hAL (kgL_c kLl236 (kgL_c kLl237 (kgL_c kLl84 (kgL_c kLl238 kgL_a)))) rfl rfl rfl (by decide +kernel) ⟨Nat.le_of_ble_eq_true rfl, Nat.le_of_ble_eq_true rfl⟩) (kCut_LO G) rfl hl.1 rfl (Nat.le_of_ble_eq_true rfl) dL_law_1587 ⟨kroom1 hcs.1 (Nat.le_of_ble_eq_true rfl), kroom1 hcs.2 (Nat.le_of_ble_eq_true rfl)⟩ (cN := cells + 1) (sN := slots + 6) ⟨rfl, rfl⟩ (fun H locs G => ?_)
      refine lv_istore (lv' := [(5, .int 1), (4, .int x4), (3, .ref aO), (2, .ref (aM 0)), (1, .ref (aF 0)), (0, .ref b)]) F.1 F.2.1 dL_law_1590 hl (by decide) rfl (fun ls hl => ?_)
      refine lv_aload_n F.1 F.2.1 dL_law_1592 rfl (lv_at hl 3 rfl) ?_
      refine lv_aload_n F.1 F.2.1 dL_law_1593 rfl (lv_at hl 5 rfl) ?_
      refine lv_iload F.1 F.2.1 dL_law_1594 (lv_at hl 1 rfl) ?_
      refine lv_iconst (v := 1) F.1 F.2.1 dL_law_1596 (by decide) ?_
      refine lv_iadd F.1 F.2.1 dL_law_1597 ?_
      refine va_sld F.1 F.2.1 hX hbl hbA G.2.2.2.1 hi1 dL_law_1598 ?_
      refine lv_aload_n F.1 F.2.1 dL_law_1599 rfl (lv_at hl 5 rfl) ?_
      refine lv_iload F.1 F.2.1 dL_law_1600 (lv_at hl 1 rfl) ?_
      refine lv_iconst (v := 2) F.1 F.2.1 dL_law_1602 (by decide) ?_
      refine lv_iadd F.1 F.2.1 dL_law_1603 ?_
      refine va_sld F.1 F.2.1 hX hbl hbA G.2.2.2.1 hi2 dL_law_1604 ?_
      refine lv_if_eq (tgt := 1612) F.1 F.2.1 dL_law_1605 (by decide) (fun c => absurd c hb) (fun c => ?_)
      refine lv_iconst (v := 1) F.1 F.2.1 dL_law_1608 (by decide) ?_
      refine lv_goto (tgt := 1613) F.1 F.2.1 dL_law_1609 (by decide) ?_
      refine k_callVR (rv := _) (Wc := gM T aM z) (W2 := gM T aM zR) (Wn := gL T aF aR aD aP aH aW aO aM tx ps nm v vn hsR wwR out zR) (As := [.int (xs (x4 + 1).toNatClampNeg), .int 1]) (rest := []) F G (mX11_want l D T aM z (xs (x4 + 1).toNatClampNeg) 1 h2) (cwV 2 hAL (kgL_c kLl239 (kgL_c kLl240 (kgL_c kLl241 (kgL_c (kA kl788) (kgL_c (kA kl1038) kgL_k))))) rfl rfl rfl (by decide +kernel) ⟨Nat.le_of_ble_eq_true rfl, Nat.le_of_ble_eq_true rfl⟩) (kg_recv G 0 0 (by decide) rfl (q := (RX11, TX11, 35)) rfl) (kCut_LM G) rfl hl.1 rfl (Nat.le_of_ble_eq_true rfl) dL_law_1613 ⟨kroom2 hcs.1 (Nat.le_of_ble_eq_true rfl), kroom2 hcs.2 (Nat.le_of_ble_eq_true rfl)⟩ (cN := cells + 1) (sN := slots + 6) ⟨rfl, rfl⟩ (fun H locs G => ?_)
      have hS := hSR
      refine lv_istore (lv' := [(6, .int b'), (5, .int 1), (4, .int x4), (3, .ref aO), (2, .ref (aM 0)), (1, .ref (aF 0)), (0, .ref b)]) F.1 F.2.1 dL_law_1616 hl (by decide) rfl (fun ls hl => ?_)
      refine lv_aload_n F.1 F.2.1 dL_law_1618 rfl (lv_at hl 4 rfl) ?_
      refine k_callVR (rv := (some (.int (zR 0 0)))) (Wc := gM T aM zR) (W2 := gM T aM zR) (Wn := gL T aF aR aD aP aH aW aO aM tx ps nm v vn hsR wwR out zR) (As := []) (rest := []) F G (mX11_thrown l D T aM zR rfl) (cwV 0 hAL (kgL_c kLl89 (kgL_c kLl90 (kgL_c kLl91 (kgL_c (kA kl788) (kgL_c (kA kl803) kgL_k))))) rfl rfl rfl (by decide +kernel) ⟨Nat.le_of_ble_eq_true rfl, Nat.le_of_ble_eq_true rfl⟩) (kg_recv G 0 0 (by decide) rfl (q := (RX11, TX11, 35)) rfl) (kCut_LM G) rfl hl.1 rfl (Nat.le_of_ble_eq_true rfl) dL_law_1619 ⟨kroom2 hcs.1 (Nat.le_of_ble_eq_true rfl), kroom2 hcs.2 (Nat.le_of_ble_eq_true rfl)⟩ (cN := cells + 1) (sN := slots + 6) ⟨rfl, rfl⟩ (fun H locs G => ?_)
      refine lv_iload F.1 F.2.1 dL_law_1622 (lv_at hl 1 rfl) ?_
      refine lv_icmp_eq (tgt := 1629) F.1 F.2.1 dL_law_1624 (by decide) (fun c => ?_) (fun c => absurd hthr c)
      refine lv_iload F.1 F.2.1 dL_law_1629 (lv_at hl 1 rfl) ?_
      refine lv_if_ne (tgt := 1653) F.1 F.2.1 dL_law_1631 (by decide) (fun c => ?_) (fun c => absurd c (by decide))
      refine lv_goto (tgt := 1909) F.1 F.2.1 dL_law_1653 (by decide) ?_
      exact kk tx ps nm v vn hsR wwR out zR _ _ _ hS G (lv_sub hl [2, 3, 4, 5, 6] rfl)
set_option maxHeartbeats 8000000 in
set_option maxRecDepth 100000 in
theorem lc_setFuse {Sim : (Nat → Nat → Int32) → (Nat → Nat → Int32) → (Nat → Int64) → (Nat → Nat → Int32) → (Nat → Int64) → (Nat → Nat → Int32) → (Nat → Nat → Nat → Int32) → (Nat → Nat → Int32) → Prop} (Hs : St_setFuse Sim) (hst : l.stackTraces = false) (F : CallFix p m c code 9 s args kAll RL) (hAL : ∀ w ∈ kAL, w.before args s = true) (hr : meth.sig.returnType = ret) (hlk : meth.locks = false) (hX : va_X b L xs s s.heap) (hbl : b < s.heap.size) (hbA : ¬ A b) {x4 : Int32} (hi1 : vp_in (x4 + 1) L) (hi2 : vp_in (x4 + 2) L) (hi3 : vp_in (x4 + 3) L) (hi4 : vp_in (x4 + 4) L) (hi5 : vp_in (x4 + 5) L) (hcs : cells + 2 ≤ 601024 ∧ slots + 12 ≤ 7293034) (hS : Sim tx ps nm v vn hs ww z)
    (kk : ∀ (tx : Nat → Nat → Int32) (ps : Nat → Nat → Int32) (nm : Nat → Int64) (v : Nat → Nat → Int32) (vn : Nat → Int64) (hs : Nat → Nat → Int32) (ww : Nat → Nat → Nat → Int32) (out : Nat → Int64) (z : Nat → Nat → Int32) (H : Heap) (locs : List Loc) (ls : Array Slot), Sim tx ps nm v vn hs ww z → Rg D T A s (gL T aF aR aD aP aH aW aO aM tx ps nm v vn hs ww out z) H locs → lv_has ls 9 [(4, .int x4), (3, .ref aO), (2, .ref (aM 0)), (1, .ref (aF 0)), (0, .ref b)] → W p l e room_1 s m args below meth c H locs (cells + 1) (slots + 6) Q (F0 m 1909 ls []))
    (G : Rg D T A s (gL T aF aR aD aP aH aW aO aM tx ps nm v vn hs ww out z) H locs) (hl : lv_has ls 9 [(4, .int x4), (3, .ref aO), (2, .ref (aM 0)), (1, .ref (aF 0)), (0, .ref b)]) : W p l e room_1 s m args below meth c H locs cells slots Q (F0 m 1656 ls []) := by
  refine lv_aload_n F.1 F.2.1 dL_law_1656 rfl (lv_at hl 3 rfl) ?_
  refine lv_aload_n F.1 F.2.1 dL_law_1657 rfl (lv_at hl 4 rfl) ?_
  refine lv_iload F.1 F.2.1 dL_law_1658 (lv_at hl 0 rfl) ?_
  refine lv_iconst (v := 1) F.1 F.2.1 dL_law_1660 (by decide) ?_
  refine lv_iadd F.1 F.2.1 dL_law_1661 ?_
  refine va_sld F.1 F.2.1 hX hbl hbA G.2.2.2.1 hi1 dL_law_1662 ?_
  refine lv_aload_n F.1 F.2.1 dL_law_1663 rfl (lv_at hl 1 rfl) ?_
  obtain ⟨e, r, hsR, wwR, b', zR, h1, h2, hd, hSR⟩ := Hs tx ps nm v vn hs ww z hS (xs (x4 + 1).toNatClampNeg)
  rcases hd with ⟨rfl, hz, rfl⟩ | ⟨rfl, hz⟩
  · have hthr : zR 0 0 = 0 := hz
    refine kl_callSW (rv := some (.int 0)) (Wc := gO T aF aR aD aP aH aW aO tx ps nm v vn hs ww out) (W2 := gO T aF aR aD aP aH aW aO tx ps nm v vn hsR wwR (vp_updL out 0 r.toInt64)) (Wn := gL T aF aR aD aP aH aW aO aM tx ps nm v vn hsR wwR (vp_updL out 0 r.toInt64) z) (As := [.ref (aF 0), .int (xs (x4 + 1).toNatClampNeg), .ref aO]) (rest := []) F G (mL_setFuse l hst D T aF aR aD aP aH aW aO tx ps nm v vn hs ww out (xs (x4 + 1).toNatClampNeg) (k := 0) (outR := (vp_updL out 0 r.toInt64)) h1 (Or.inl ⟨rfl, rfl, rfl⟩)) (vx_cwSW 3 hAL (kgL_c kLl242 (kgL_c kLl243 (kgL_c kLl84 (kgL_c kLl244 kgL_a)))) rfl rfl rfl (by decide +kernel) ⟨Nat.le_of_ble_eq_true rfl, Nat.le_of_ble_eq_true rfl⟩) (kCut_LO G) rfl hl.1 rfl (Nat.le_of_ble_eq_true rfl) dL_law_1664 ⟨kroom1 hcs.1 (Nat.le_of_ble_eq_true rfl), kroom1 hcs.2 (Nat.le_of_ble_eq_true rfl)⟩ (cN := cells + 1) (sN := slots + 6) ⟨rfl, rfl⟩ (fun H locs G => ?_)
    have hcmp : lg_cmp ((vp_updL out 0 r.toInt64) (0 : Int32).toNatClampNeg) r.toInt64 = 0 := lg_same _ _
    refine lv_istore (lv' := [(5, .int 0), (4, .int x4), (3, .ref aO), (2, .ref (aM 0)), (1, .ref (aF 0)), (0, .ref b)]) F.1 F.2.1 dL_law_1667 hl (by decide) rfl (fun ls hl => ?_)
    refine lv_aload_n F.1 F.2.1 dL_law_1669 rfl (lv_at hl 3 rfl) ?_
    refine lv_aload_n F.1 F.2.1 dL_law_1670 rfl (lv_at hl 5 rfl) ?_
    refine lv_iload F.1 F.2.1 dL_law_1671 (lv_at hl 1 rfl) ?_
    refine lv_iconst (v := 1) F.1 F.2.1 dL_law_1673 (by decide) ?_
    refine lv_iadd F.1 F.2.1 dL_law_1674 ?_
    refine va_sld F.1 F.2.1 hX hbl hbA G.2.2.2.1 hi1 dL_law_1675 ?_
    refine k_callVR (rv := _) (Wc := gM T aM z) (W2 := gM T aM zR) (Wn := gL T aF aR aD aP aH aW aO aM tx ps nm v vn hsR wwR (vp_updL out 0 r.toInt64) zR) (As := [.int (xs (x4 + 1).toNatClampNeg)]) (rest := []) F G (mX11_setFuse l D T aM z (xs (x4 + 1).toNatClampNeg) h2) (cwV 1 hAL (kgL_c kLl245 (kgL_c kLl246 (kgL_c kLl247 (kgL_c (kA kl788) (kgL_c (kA kl1039) kgL_k))))) rfl rfl rfl (by decide +kernel) ⟨Nat.le_of_ble_eq_true rfl, Nat.le_of_ble_eq_true rfl⟩) (kg_recv G 0 0 (by decide) rfl (q := (RX11, TX11, 35)) rfl) (kCut_LM G) rfl hl.1 rfl (Nat.le_of_ble_eq_true rfl) dL_law_1676 ⟨kroom2 hcs.1 (Nat.le_of_ble_eq_true rfl), kroom2 hcs.2 (Nat.le_of_ble_eq_true rfl)⟩ (cN := cells + 1) (sN := slots + 6) ⟨rfl, rfl⟩ (fun H locs G => ?_)
    have hS := hSR
    refine lv_istore (lv' := [(6, .int r), (5, .int 0), (4, .int x4), (3, .ref aO), (2, .ref (aM 0)), (1, .ref (aF 0)), (0, .ref b)]) F.1 F.2.1 dL_law_1679 hl (by decide) rfl (fun ls hl => ?_)
    refine lv_aload_n F.1 F.2.1 dL_law_1681 rfl (lv_at hl 4 rfl) ?_
    refine k_callVR (rv := (some (.int (zR 0 0)))) (Wc := gM T aM zR) (W2 := gM T aM zR) (Wn := gL T aF aR aD aP aH aW aO aM tx ps nm v vn hsR wwR (vp_updL out 0 r.toInt64) zR) (As := []) (rest := []) F G (mX11_thrown l D T aM zR rfl) (cwV 0 hAL (kgL_c kLl89 (kgL_c kLl90 (kgL_c kLl91 (kgL_c (kA kl788) (kgL_c (kA kl803) kgL_k))))) rfl rfl rfl (by decide +kernel) ⟨Nat.le_of_ble_eq_true rfl, Nat.le_of_ble_eq_true rfl⟩) (kg_recv G 0 0 (by decide) rfl (q := (RX11, TX11, 35)) rfl) (kCut_LM G) rfl hl.1 rfl (Nat.le_of_ble_eq_true rfl) dL_law_1682 ⟨kroom2 hcs.1 (Nat.le_of_ble_eq_true rfl), kroom2 hcs.2 (Nat.le_of_ble_eq_true rfl)⟩ (cN := cells + 1) (sN := slots + 6) ⟨rfl, rfl⟩ (fun H locs G => ?_)
    refine lv_iload F.1 F.2.1 dL_law_1685 (lv_at hl 1 rfl) ?_
    refine lv_icmp_eq (tgt := 1692) F.1 F.2.1 dL_law_1687 (by decide) (fun c => ?_) (fun c => absurd hthr c)
    refine lv_iload F.1 F.2.1 dL_law_1692 (lv_at hl 1 rfl) ?_
    refine lv_if_ne (tgt := 1709) F.1 F.2.1 dL_law_1694 (by decide) (fun c => absurd (by decide) c) (fun c => ?_)
    refine lv_aload_n F.1 F.2.1 dL_law_1697 rfl (lv_at hl 3 rfl) ?_
    refine lv_iconst (v := 0) F.1 F.2.1 dL_law_1698 (by decide) ?_
    refine kg_lald F G 1 0 (by decide) rfl (i := 0) (kin (by decide +kernel)) dL_law_1699 ?_
    refine lv_iload F.1 F.2.1 dL_law_1700 (lv_at hl 0 rfl) ?_
    refine lv_i2l (v := r.toInt64) F.1 F.2.1 dL_law_1702 rfl ?_
    refine W.lcmp F.1 F.2.1 dL_law_1703 ?_
    refine lv_if_eq (tgt := 1709) F.1 F.2.1 dL_law_1704 (by decide) (fun c => ?_) (fun c => absurd hcmp c)
    refine lv_goto (tgt := 1909) F.1 F.2.1 dL_law_1709 (by decide) ?_
    exact kk tx ps nm v vn hsR wwR (vp_updL out 0 r.toInt64) zR _ _ _ hS G (lv_sub hl [2, 3, 4, 5, 6] rfl)
  · have hthr : zR 0 0 = 1 := hz
    refine kl_callSW (rv := some (.int 1)) (Wc := gO T aF aR aD aP aH aW aO tx ps nm v vn hs ww out) (W2 := gO T aF aR aD aP aH aW aO tx ps nm v vn hsR wwR out) (Wn := gL T aF aR aD aP aH aW aO aM tx ps nm v vn hsR wwR out z) (As := [.ref (aF 0), .int (xs (x4 + 1).toNatClampNeg), .ref aO]) (rest := []) F G (mL_setFuse l hst D T aF aR aD aP aH aW aO tx ps nm v vn hs ww out (xs (x4 + 1).toNatClampNeg) (k := 1) (outR := out) h1 (Or.inr ⟨rfl, rfl, rfl⟩)) (vx_cwSW 3 hAL (kgL_c kLl242 (kgL_c kLl243 (kgL_c kLl84 (kgL_c kLl244 kgL_a)))) rfl rfl rfl (by decide +kernel) ⟨Nat.le_of_ble_eq_true rfl, Nat.le_of_ble_eq_true rfl⟩) (kCut_LO G) rfl hl.1 rfl (Nat.le_of_ble_eq_true rfl) dL_law_1664 ⟨kroom1 hcs.1 (Nat.le_of_ble_eq_true rfl), kroom1 hcs.2 (Nat.le_of_ble_eq_true rfl)⟩ (cN := cells + 1) (sN := slots + 6) ⟨rfl, rfl⟩ (fun H locs G => ?_)
    refine lv_istore (lv' := [(5, .int 1), (4, .int x4), (3, .ref aO), (2, .ref (aM 0)), (1, .ref (aF 0)), (0, .ref b)]) F.1 F.2.1 dL_law_1667 hl (by decide) rfl (fun ls hl => ?_)
    refine lv_aload_n F.1 F.2.1 dL_law_1669 rfl (lv_at hl 3 rfl) ?_
    refine lv_aload_n F.1 F.2.1 dL_law_1670 rfl (lv_at hl 5 rfl) ?_
    refine lv_iload F.1 F.2.1 dL_law_1671 (lv_at hl 1 rfl) ?_
    refine lv_iconst (v := 1) F.1 F.2.1 dL_law_1673 (by decide) ?_
    refine lv_iadd F.1 F.2.1 dL_law_1674 ?_
    refine va_sld F.1 F.2.1 hX hbl hbA G.2.2.2.1 hi1 dL_law_1675 ?_
    refine k_callVR (rv := _) (Wc := gM T aM z) (W2 := gM T aM zR) (Wn := gL T aF aR aD aP aH aW aO aM tx ps nm v vn hsR wwR out zR) (As := [.int (xs (x4 + 1).toNatClampNeg)]) (rest := []) F G (mX11_setFuse l D T aM z (xs (x4 + 1).toNatClampNeg) h2) (cwV 1 hAL (kgL_c kLl245 (kgL_c kLl246 (kgL_c kLl247 (kgL_c (kA kl788) (kgL_c (kA kl1039) kgL_k))))) rfl rfl rfl (by decide +kernel) ⟨Nat.le_of_ble_eq_true rfl, Nat.le_of_ble_eq_true rfl⟩) (kg_recv G 0 0 (by decide) rfl (q := (RX11, TX11, 35)) rfl) (kCut_LM G) rfl hl.1 rfl (Nat.le_of_ble_eq_true rfl) dL_law_1676 ⟨kroom2 hcs.1 (Nat.le_of_ble_eq_true rfl), kroom2 hcs.2 (Nat.le_of_ble_eq_true rfl)⟩ (cN := cells + 1) (sN := slots + 6) ⟨rfl, rfl⟩ (fun H locs G => ?_)
    have hS := hSR
    refine lv_istore (lv' := [(6, .int b'), (5, .int 1), (4, .int x4), (3, .ref aO), (2, .ref (aM 0)), (1, .ref (aF 0)), (0, .ref b)]) F.1 F.2.1 dL_law_1679 hl (by decide) rfl (fun ls hl => ?_)
    refine lv_aload_n F.1 F.2.1 dL_law_1681 rfl (lv_at hl 4 rfl) ?_
    refine k_callVR (rv := (some (.int (zR 0 0)))) (Wc := gM T aM zR) (W2 := gM T aM zR) (Wn := gL T aF aR aD aP aH aW aO aM tx ps nm v vn hsR wwR out zR) (As := []) (rest := []) F G (mX11_thrown l D T aM zR rfl) (cwV 0 hAL (kgL_c kLl89 (kgL_c kLl90 (kgL_c kLl91 (kgL_c (kA kl788) (kgL_c (kA kl803) kgL_k))))) rfl rfl rfl (by decide +kernel) ⟨Nat.le_of_ble_eq_true rfl, Nat.le_of_ble_eq_true rfl⟩) (kg_recv G 0 0 (by decide) rfl (q := (RX11, TX11, 35)) rfl) (kCut_LM G) rfl hl.1 rfl (Nat.le_of_ble_eq_true rfl) dL_law_1682 ⟨kroom2 hcs.1 (Nat.le_of_ble_eq_true rfl), kroom2 hcs.2 (Nat.le_of_ble_eq_true rfl)⟩ (cN := cells + 1) (sN := slots + 6) ⟨rfl, rfl⟩ (fun H locs G => ?_)
    refine lv_iload F.1 F.2.1 dL_law_1685 (lv_at hl 1 rfl) ?_
    refine lv_icmp_eq (tgt := 1692) F.1 F.2.1 dL_law_1687 (by decide) (fun c => ?_) (fun c => absurd hthr c)
    refine lv_iload F.1 F.2.1 dL_law_1692 (lv_at hl 1 rfl) ?_
    refine lv_if_ne (tgt := 1709) F.1 F.2.1 dL_law_1694 (by decide) (fun c => ?_) (fun c => absurd c (by decide))
    refine lv_goto (tgt := 1909) F.1 F.2.1 dL_law_1709 (by decide) ?_
    exact kk tx ps nm v vn hsR wwR out zR _ _ _ hS G (lv_sub hl [2, 3, 4, 5, 6] rfl)
set_option maxHeartbeats 8000000 in
set_option maxRecDepth 100000 in
theorem lc_setPriority {Sim : (Nat → Nat → Int32) → (Nat → Nat → Int32) → (Nat → Int64) → (Nat → Nat → Int32) → (Nat → Int64) → (Nat → Nat → Int32) → (Nat → Nat → Nat → Int32) → (Nat → Nat → Int32) → Prop} (Hs : St_setPriority Sim) (hst : l.stackTraces = false) (F : CallFix p m c code 9 s args kAll RL) (hAL : ∀ w ∈ kAL, w.before args s = true) (hr : meth.sig.returnType = ret) (hlk : meth.locks = false) (hX : va_X b L xs s s.heap) (hbl : b < s.heap.size) (hbA : ¬ A b) {x4 : Int32} (hi1 : vp_in (x4 + 1) L) (hi2 : vp_in (x4 + 2) L) (hi3 : vp_in (x4 + 3) L) (hi4 : vp_in (x4 + 4) L) (hi5 : vp_in (x4 + 5) L) (hcs : cells + 2 ≤ 601024 ∧ slots + 12 ≤ 7293034) (hS : Sim tx ps nm v vn hs ww z)
    (kk : ∀ (tx : Nat → Nat → Int32) (ps : Nat → Nat → Int32) (nm : Nat → Int64) (v : Nat → Nat → Int32) (vn : Nat → Int64) (hs : Nat → Nat → Int32) (ww : Nat → Nat → Nat → Int32) (out : Nat → Int64) (z : Nat → Nat → Int32) (H : Heap) (locs : List Loc) (ls : Array Slot), Sim tx ps nm v vn hs ww z → Rg D T A s (gL T aF aR aD aP aH aW aO aM tx ps nm v vn hs ww out z) H locs → lv_has ls 9 [(4, .int x4), (3, .ref aO), (2, .ref (aM 0)), (1, .ref (aF 0)), (0, .ref b)] → W p l e room_1 s m args below meth c H locs (cells + 2) (slots + 12) Q (F0 m 1909 ls []))
    (G : Rg D T A s (gL T aF aR aD aP aH aW aO aM tx ps nm v vn hs ww out z) H locs) (hl : lv_has ls 9 [(4, .int x4), (3, .ref aO), (2, .ref (aM 0)), (1, .ref (aF 0)), (0, .ref b)]) : W p l e room_1 s m args below meth c H locs cells slots Q (F0 m 1712 ls []) := by
  refine lv_aload_n F.1 F.2.1 dL_law_1712 rfl (lv_at hl 3 rfl) ?_
  refine lv_aload_n F.1 F.2.1 dL_law_1713 rfl (lv_at hl 4 rfl) ?_
  refine lv_iload F.1 F.2.1 dL_law_1714 (lv_at hl 0 rfl) ?_
  refine lv_iconst (v := 1) F.1 F.2.1 dL_law_1716 (by decide) ?_
  refine lv_iadd F.1 F.2.1 dL_law_1717 ?_
  refine va_sld F.1 F.2.1 hX hbl hbA G.2.2.2.1 hi1 dL_law_1718 ?_
  refine lv_aload_n F.1 F.2.1 dL_law_1719 rfl (lv_at hl 4 rfl) ?_
  refine lv_iload F.1 F.2.1 dL_law_1720 (lv_at hl 0 rfl) ?_
  refine lv_iconst (v := 2) F.1 F.2.1 dL_law_1722 (by decide) ?_
  refine lv_iadd F.1 F.2.1 dL_law_1723 ?_
  refine va_sld F.1 F.2.1 hX hbl hbA G.2.2.2.1 hi2 dL_law_1724 ?_
  refine lv_aload_n F.1 F.2.1 dL_law_1725 rfl (lv_at hl 1 rfl) ?_
  obtain ⟨e, r, hsR, wwR, b', zR, h1, h2, hd, hSR⟩ := Hs tx ps nm v vn hs ww z hS (xs (x4 + 1).toNatClampNeg) (xs (x4 + 2).toNatClampNeg)
  rcases hd with ⟨rfl, hz, rfl⟩ | ⟨rfl, hz⟩ | ⟨rfl, hz⟩
  · have hthr : zR 0 0 = 0 := hz
    refine kl_callSW (rv := some (.int 0)) (Wc := gO T aF aR aD aP aH aW aO tx ps nm v vn hs ww out) (W2 := gO T aF aR aD aP aH aW aO tx ps nm v vn hsR wwR (vp_updL out 0 r.toInt64)) (Wn := gL T aF aR aD aP aH aW aO aM tx ps nm v vn hsR wwR (vp_updL out 0 r.toInt64) z) (As := [.ref (aF 0), .int (xs (x4 + 1).toNatClampNeg), .int (xs (x4 + 2).toNatClampNeg), .ref aO]) (rest := []) F G (mL_setPriority l hst D T aF aR aD aP aH aW aO tx ps nm v vn hs ww out (xs (x4 + 1).toNatClampNeg) (xs (x4 + 2).toNatClampNeg) (k := 0) (outR := (vp_updL out 0 r.toInt64)) h1 (Or.inl ⟨rfl, rfl, rfl⟩)) (vx_cwSW 4 hAL (kgL_c kLl248 (kgL_c kLl249 (kgL_c kLl84 (kgL_c kLl250 kgL_a)))) rfl rfl rfl (by decide +kernel) ⟨Nat.le_of_ble_eq_true rfl, Nat.le_of_ble_eq_true rfl⟩) (kCut_LO G) rfl hl.1 rfl (Nat.le_of_ble_eq_true rfl) dL_law_1726 ⟨kroom1 hcs.1 (Nat.le_of_ble_eq_true rfl), kroom1 hcs.2 (Nat.le_of_ble_eq_true rfl)⟩ (cN := cells + 2) (sN := slots + 12) ⟨rfl, rfl⟩ (fun H locs G => ?_)
    have hcmp : lg_cmp ((vp_updL out 0 r.toInt64) (0 : Int32).toNatClampNeg) r.toInt64 = 0 := lg_same _ _
    refine lv_istore (lv' := [(5, .int 0), (4, .int x4), (3, .ref aO), (2, .ref (aM 0)), (1, .ref (aF 0)), (0, .ref b)]) F.1 F.2.1 dL_law_1729 hl (by decide) rfl (fun ls hl => ?_)
    refine lv_aload_n F.1 F.2.1 dL_law_1731 rfl (lv_at hl 3 rfl) ?_
    refine lv_aload_n F.1 F.2.1 dL_law_1732 rfl (lv_at hl 5 rfl) ?_
    refine lv_iload F.1 F.2.1 dL_law_1733 (lv_at hl 1 rfl) ?_
    refine lv_iconst (v := 1) F.1 F.2.1 dL_law_1735 (by decide) ?_
    refine lv_iadd F.1 F.2.1 dL_law_1736 ?_
    refine va_sld F.1 F.2.1 hX hbl hbA G.2.2.2.1 hi1 dL_law_1737 ?_
    refine lv_aload_n F.1 F.2.1 dL_law_1738 rfl (lv_at hl 5 rfl) ?_
    refine lv_iload F.1 F.2.1 dL_law_1739 (lv_at hl 1 rfl) ?_
    refine lv_iconst (v := 2) F.1 F.2.1 dL_law_1741 (by decide) ?_
    refine lv_iadd F.1 F.2.1 dL_law_1742 ?_
    refine va_sld F.1 F.2.1 hX hbl hbA G.2.2.2.1 hi2 dL_law_1743 ?_
    refine k_callVR (rv := _) (Wc := gM T aM z) (W2 := gM T aM zR) (Wn := gL T aF aR aD aP aH aW aO aM tx ps nm v vn hsR wwR (vp_updL out 0 r.toInt64) zR) (As := [.int (xs (x4 + 1).toNatClampNeg), .int (xs (x4 + 2).toNatClampNeg)]) (rest := []) F G (mX11_setPriority l D T aM z (xs (x4 + 1).toNatClampNeg) (xs (x4 + 2).toNatClampNeg) h2) (cwV 2 hAL (kgL_c kLl251 (kgL_c kLl252 (kgL_c kLl253 (kgL_c (kA kl788) (kgL_c (kA kl1040) kgL_k))))) rfl rfl rfl (by decide +kernel) ⟨Nat.le_of_ble_eq_true rfl, Nat.le_of_ble_eq_true rfl⟩) (kg_recv G 0 0 (by decide) rfl (q := (RX11, TX11, 35)) rfl) (kCut_LM G) rfl hl.1 rfl (Nat.le_of_ble_eq_true rfl) dL_law_1744 ⟨kroom2 hcs.1 (Nat.le_of_ble_eq_true rfl), kroom2 hcs.2 (Nat.le_of_ble_eq_true rfl)⟩ (cN := cells + 2) (sN := slots + 12) ⟨rfl, rfl⟩ (fun H locs G => ?_)
    have hS := hSR
    refine lv_istore (lv' := [(6, .int r), (5, .int 0), (4, .int x4), (3, .ref aO), (2, .ref (aM 0)), (1, .ref (aF 0)), (0, .ref b)]) F.1 F.2.1 dL_law_1747 hl (by decide) rfl (fun ls hl => ?_)
    refine lv_aload_n F.1 F.2.1 dL_law_1749 rfl (lv_at hl 4 rfl) ?_
    refine k_callVR (rv := (some (.int (zR 0 0)))) (Wc := gM T aM zR) (W2 := gM T aM zR) (Wn := gL T aF aR aD aP aH aW aO aM tx ps nm v vn hsR wwR (vp_updL out 0 r.toInt64) zR) (As := []) (rest := []) F G (mX11_thrown l D T aM zR rfl) (cwV 0 hAL (kgL_c kLl89 (kgL_c kLl90 (kgL_c kLl91 (kgL_c (kA kl788) (kgL_c (kA kl803) kgL_k))))) rfl rfl rfl (by decide +kernel) ⟨Nat.le_of_ble_eq_true rfl, Nat.le_of_ble_eq_true rfl⟩) (kg_recv G 0 0 (by decide) rfl (q := (RX11, TX11, 35)) rfl) (kCut_LM G) rfl hl.1 rfl (Nat.le_of_ble_eq_true rfl) dL_law_1750 ⟨kroom2 hcs.1 (Nat.le_of_ble_eq_true rfl), kroom2 hcs.2 (Nat.le_of_ble_eq_true rfl)⟩ (cN := cells + 2) (sN := slots + 12) ⟨rfl, rfl⟩ (fun H locs G => ?_)
    refine lv_iload F.1 F.2.1 dL_law_1753 (lv_at hl 1 rfl) ?_
    refine lv_icmp_eq (tgt := 1760) F.1 F.2.1 dL_law_1755 (by decide) (fun c => ?_) (fun c => absurd hthr c)
    refine lv_iload F.1 F.2.1 dL_law_1760 (lv_at hl 1 rfl) ?_
    refine lv_if_ne (tgt := 1777) F.1 F.2.1 dL_law_1762 (by decide) (fun c => absurd (by decide) c) (fun c => ?_)
    refine lv_aload_n F.1 F.2.1 dL_law_1765 rfl (lv_at hl 3 rfl) ?_
    refine lv_iconst (v := 0) F.1 F.2.1 dL_law_1766 (by decide) ?_
    refine kg_lald F G 1 0 (by decide) rfl (i := 0) (kin (by decide +kernel)) dL_law_1767 ?_
    refine lv_iload F.1 F.2.1 dL_law_1768 (lv_at hl 0 rfl) ?_
    refine lv_i2l (v := r.toInt64) F.1 F.2.1 dL_law_1770 rfl ?_
    refine W.lcmp F.1 F.2.1 dL_law_1771 ?_
    refine lv_if_eq (tgt := 1777) F.1 F.2.1 dL_law_1772 (by decide) (fun c => ?_) (fun c => absurd hcmp c)
    refine lv_goto (tgt := 1909) F.1 F.2.1 dL_law_1777 (by decide) ?_
    exact kk tx ps nm v vn hsR wwR (vp_updL out 0 r.toInt64) zR _ _ _ hS G (lv_sub hl [2, 3, 4, 5, 6] rfl)
  · have hthr : zR 0 0 = 1 := hz
    refine kl_callSW (rv := some (.int 1)) (Wc := gO T aF aR aD aP aH aW aO tx ps nm v vn hs ww out) (W2 := gO T aF aR aD aP aH aW aO tx ps nm v vn hsR wwR out) (Wn := gL T aF aR aD aP aH aW aO aM tx ps nm v vn hsR wwR out z) (As := [.ref (aF 0), .int (xs (x4 + 1).toNatClampNeg), .int (xs (x4 + 2).toNatClampNeg), .ref aO]) (rest := []) F G (mL_setPriority l hst D T aF aR aD aP aH aW aO tx ps nm v vn hs ww out (xs (x4 + 1).toNatClampNeg) (xs (x4 + 2).toNatClampNeg) (k := 1) (outR := out) h1 (Or.inr (Or.inl ⟨rfl, rfl, rfl⟩))) (vx_cwSW 4 hAL (kgL_c kLl248 (kgL_c kLl249 (kgL_c kLl84 (kgL_c kLl250 kgL_a)))) rfl rfl rfl (by decide +kernel) ⟨Nat.le_of_ble_eq_true rfl, Nat.le_of_ble_eq_true rfl⟩) (kCut_LO G) rfl hl.1 rfl (Nat.le_of_ble_eq_true rfl) dL_law_1726 ⟨kroom1 hcs.1 (Nat.le_of_ble_eq_true rfl), kroom1 hcs.2 (Nat.le_of_ble_eq_true rfl)⟩ (cN := cells + 2) (sN := slots + 12) ⟨rfl, rfl⟩ (fun H locs G => ?_)
    refine lv_istore (lv' := [(5, .int 1), (4, .int x4), (3, .ref aO), (2, .ref (aM 0)), (1, .ref (aF 0)), (0, .ref b)]) F.1 F.2.1 dL_law_1729 hl (by decide) rfl (fun ls hl => ?_)
    refine lv_aload_n F.1 F.2.1 dL_law_1731 rfl (lv_at hl 3 rfl) ?_
    refine lv_aload_n F.1 F.2.1 dL_law_1732 rfl (lv_at hl 5 rfl) ?_
    refine lv_iload F.1 F.2.1 dL_law_1733 (lv_at hl 1 rfl) ?_
    refine lv_iconst (v := 1) F.1 F.2.1 dL_law_1735 (by decide) ?_
    refine lv_iadd F.1 F.2.1 dL_law_1736 ?_
    refine va_sld F.1 F.2.1 hX hbl hbA G.2.2.2.1 hi1 dL_law_1737 ?_
    refine lv_aload_n F.1 F.2.1 dL_law_1738 rfl (lv_at hl 5 rfl) ?_
    refine lv_iload F.1 F.2.1 dL_law_1739 (lv_at hl 1 rfl) ?_
    refine lv_iconst (v := 2) F.1 F.2.1 dL_law_1741 (by decide) ?_
    refine lv_iadd F.1 F.2.1 dL_law_1742 ?_
    refine va_sld F.1 F.2.1 hX hbl hbA G.2.2.2.1 hi2 dL_law_1743 ?_
    refine k_callVR (rv := _) (Wc := gM T aM z) (W2 := gM T aM zR) (Wn := gL T aF aR aD aP aH aW aO aM tx ps nm v vn hsR wwR out zR) (As := [.int (xs (x4 + 1).toNatClampNeg), .int (xs (x4 + 2).toNatClampNeg)]) (rest := []) F G (mX11_setPriority l D T aM z (xs (x4 + 1).toNatClampNeg) (xs (x4 + 2).toNatClampNeg) h2) (cwV 2 hAL (kgL_c kLl251 (kgL_c kLl252 (kgL_c kLl253 (kgL_c (kA kl788) (kgL_c (kA kl1040) kgL_k))))) rfl rfl rfl (by decide +kernel) ⟨Nat.le_of_ble_eq_true rfl, Nat.le_of_ble_eq_true rfl⟩) (kg_recv G 0 0 (by decide) rfl (q := (RX11, TX11, 35)) rfl) (kCut_LM G) rfl hl.1 rfl (Nat.le_of_ble_eq_true rfl) dL_law_1744 ⟨kroom2 hcs.1 (Nat.le_of_ble_eq_true rfl), kroom2 hcs.2 (Nat.le_of_ble_eq_true rfl)⟩ (cN := cells + 2) (sN := slots + 12) ⟨rfl, rfl⟩ (fun H locs G => ?_)
    have hS := hSR
    refine lv_istore (lv' := [(6, .int b'), (5, .int 1), (4, .int x4), (3, .ref aO), (2, .ref (aM 0)), (1, .ref (aF 0)), (0, .ref b)]) F.1 F.2.1 dL_law_1747 hl (by decide) rfl (fun ls hl => ?_)
    refine lv_aload_n F.1 F.2.1 dL_law_1749 rfl (lv_at hl 4 rfl) ?_
    refine k_callVR (rv := (some (.int (zR 0 0)))) (Wc := gM T aM zR) (W2 := gM T aM zR) (Wn := gL T aF aR aD aP aH aW aO aM tx ps nm v vn hsR wwR out zR) (As := []) (rest := []) F G (mX11_thrown l D T aM zR rfl) (cwV 0 hAL (kgL_c kLl89 (kgL_c kLl90 (kgL_c kLl91 (kgL_c (kA kl788) (kgL_c (kA kl803) kgL_k))))) rfl rfl rfl (by decide +kernel) ⟨Nat.le_of_ble_eq_true rfl, Nat.le_of_ble_eq_true rfl⟩) (kg_recv G 0 0 (by decide) rfl (q := (RX11, TX11, 35)) rfl) (kCut_LM G) rfl hl.1 rfl (Nat.le_of_ble_eq_true rfl) dL_law_1750 ⟨kroom2 hcs.1 (Nat.le_of_ble_eq_true rfl), kroom2 hcs.2 (Nat.le_of_ble_eq_true rfl)⟩ (cN := cells + 2) (sN := slots + 12) ⟨rfl, rfl⟩ (fun H locs G => ?_)
    refine lv_iload F.1 F.2.1 dL_law_1753 (lv_at hl 1 rfl) ?_
    refine lv_icmp_eq (tgt := 1760) F.1 F.2.1 dL_law_1755 (by decide) (fun c => ?_) (fun c => absurd hthr c)
    refine lv_iload F.1 F.2.1 dL_law_1760 (lv_at hl 1 rfl) ?_
    refine lv_if_ne (tgt := 1777) F.1 F.2.1 dL_law_1762 (by decide) (fun c => ?_) (fun c => absurd c (by decide))
    refine lv_goto (tgt := 1909) F.1 F.2.1 dL_law_1777 (by decide) ?_
    exact kk tx ps nm v vn hsR wwR out zR _ _ _ hS G (lv_sub hl [2, 3, 4, 5, 6] rfl)
  · have hthr : zR 0 0 = 2 := hz
    refine kl_callSW (rv := some (.int 2)) (Wc := gO T aF aR aD aP aH aW aO tx ps nm v vn hs ww out) (W2 := gO T aF aR aD aP aH aW aO tx ps nm v vn hsR wwR out) (Wn := gL T aF aR aD aP aH aW aO aM tx ps nm v vn hsR wwR out z) (As := [.ref (aF 0), .int (xs (x4 + 1).toNatClampNeg), .int (xs (x4 + 2).toNatClampNeg), .ref aO]) (rest := []) F G (mL_setPriority l hst D T aF aR aD aP aH aW aO tx ps nm v vn hs ww out (xs (x4 + 1).toNatClampNeg) (xs (x4 + 2).toNatClampNeg) (k := 2) (outR := out) h1 (Or.inr (Or.inr ⟨rfl, rfl, rfl⟩))) (vx_cwSW 4 hAL (kgL_c kLl248 (kgL_c kLl249 (kgL_c kLl84 (kgL_c kLl250 kgL_a)))) rfl rfl rfl (by decide +kernel) ⟨Nat.le_of_ble_eq_true rfl, Nat.le_of_ble_eq_true rfl⟩) (kCut_LO G) rfl hl.1 rfl (Nat.le_of_ble_eq_true rfl) dL_law_1726 ⟨kroom1 hcs.1 (Nat.le_of_ble_eq_true rfl), kroom1 hcs.2 (Nat.le_of_ble_eq_true rfl)⟩ (cN := cells + 2) (sN := slots + 12) ⟨rfl, rfl⟩ (fun H locs G => ?_)
    refine lv_istore (lv' := [(5, .int 2), (4, .int x4), (3, .ref aO), (2, .ref (aM 0)), (1, .ref (aF 0)), (0, .ref b)]) F.1 F.2.1 dL_law_1729 hl (by decide) rfl (fun ls hl => ?_)
    refine lv_aload_n F.1 F.2.1 dL_law_1731 rfl (lv_at hl 3 rfl) ?_
    refine lv_aload_n F.1 F.2.1 dL_law_1732 rfl (lv_at hl 5 rfl) ?_
    refine lv_iload F.1 F.2.1 dL_law_1733 (lv_at hl 1 rfl) ?_
    refine lv_iconst (v := 1) F.1 F.2.1 dL_law_1735 (by decide) ?_
    refine lv_iadd F.1 F.2.1 dL_law_1736 ?_
    refine va_sld F.1 F.2.1 hX hbl hbA G.2.2.2.1 hi1 dL_law_1737 ?_
    refine lv_aload_n F.1 F.2.1 dL_law_1738 rfl (lv_at hl 5 rfl) ?_
    refine lv_iload F.1 F.2.1 dL_law_1739 (lv_at hl 1 rfl) ?_
    refine lv_iconst (v := 2) F.1 F.2.1 dL_law_1741 (by decide) ?_
    refine lv_iadd F.1 F.2.1 dL_law_1742 ?_
    refine va_sld F.1 F.2.1 hX hbl hbA G.2.2.2.1 hi2 dL_law_1743 ?_
    refine k_callVR (rv := _) (Wc := gM T aM z) (W2 := gM T aM zR) (Wn := gL T aF aR aD aP aH aW aO aM tx ps nm v vn hsR wwR out zR) (As := [.int (xs (x4 + 1).toNatClampNeg), .int (xs (x4 + 2).toNatClampNeg)]) (rest := []) F G (mX11_setPriority l D T aM z (xs (x4 + 1).toNatClampNeg) (xs (x4 + 2).toNatClampNeg) h2) (cwV 2 hAL (kgL_c kLl251 (kgL_c kLl252 (kgL_c kLl253 (kgL_c (kA kl788) (kgL_c (kA kl1040) kgL_k))))) rfl rfl rfl (by decide +kernel) ⟨Nat.le_of_ble_eq_true rfl, Nat.le_of_ble_eq_true rfl⟩) (kg_recv G 0 0 (by decide) rfl (q := (RX11, TX11, 35)) rfl) (kCut_LM G) rfl hl.1 rfl (Nat.le_of_ble_eq_true rfl) dL_law_1744 ⟨kroom2 hcs.1 (Nat.le_of_ble_eq_true rfl), kroom2 hcs.2 (Nat.le_of_ble_eq_true rfl)⟩ (cN := cells + 2) (sN := slots + 12) ⟨rfl, rfl⟩ (fun H locs G => ?_)
    have hS := hSR
    refine lv_istore (lv' := [(6, .int b'), (5, .int 2), (4, .int x4), (3, .ref aO), (2, .ref (aM 0)), (1, .ref (aF 0)), (0, .ref b)]) F.1 F.2.1 dL_law_1747 hl (by decide) rfl (fun ls hl => ?_)
    refine lv_aload_n F.1 F.2.1 dL_law_1749 rfl (lv_at hl 4 rfl) ?_
    refine k_callVR (rv := (some (.int (zR 0 0)))) (Wc := gM T aM zR) (W2 := gM T aM zR) (Wn := gL T aF aR aD aP aH aW aO aM tx ps nm v vn hsR wwR out zR) (As := []) (rest := []) F G (mX11_thrown l D T aM zR rfl) (cwV 0 hAL (kgL_c kLl89 (kgL_c kLl90 (kgL_c kLl91 (kgL_c (kA kl788) (kgL_c (kA kl803) kgL_k))))) rfl rfl rfl (by decide +kernel) ⟨Nat.le_of_ble_eq_true rfl, Nat.le_of_ble_eq_true rfl⟩) (kg_recv G 0 0 (by decide) rfl (q := (RX11, TX11, 35)) rfl) (kCut_LM G) rfl hl.1 rfl (Nat.le_of_ble_eq_true rfl) dL_law_1750 ⟨kroom2 hcs.1 (Nat.le_of_ble_eq_true rfl), kroom2 hcs.2 (Nat.le_of_ble_eq_true rfl)⟩ (cN := cells + 2) (sN := slots + 12) ⟨rfl, rfl⟩ (fun H locs G => ?_)
    refine lv_iload F.1 F.2.1 dL_law_1753 (lv_at hl 1 rfl) ?_
    refine lv_icmp_eq (tgt := 1760) F.1 F.2.1 dL_law_1755 (by decide) (fun c => ?_) (fun c => absurd hthr c)
    refine lv_iload F.1 F.2.1 dL_law_1760 (lv_at hl 1 rfl) ?_
    refine lv_if_ne (tgt := 1777) F.1 F.2.1 dL_law_1762 (by decide) (fun c => ?_) (fun c => absurd c (by decide))
    refine lv_goto (tgt := 1909) F.1 F.2.1 dL_law_1777 (by decide) ?_
    exact kk tx ps nm v vn hsR wwR out zR _ _ _ hS G (lv_sub hl [2, 3, 4, 5, 6] rfl)
set_option maxHeartbeats 8000000 in
set_option maxRecDepth 100000 in
theorem lc_forget {Sim : (Nat → Nat → Int32) → (Nat → Nat → Int32) → (Nat → Int64) → (Nat → Nat → Int32) → (Nat → Int64) → (Nat → Nat → Int32) → (Nat → Nat → Nat → Int32) → (Nat → Nat → Int32) → Prop} (Hs : St_forget Sim) (hst : l.stackTraces = false) (F : CallFix p m c code 9 s args kAll RL) (hAL : ∀ w ∈ kAL, w.before args s = true) (hr : meth.sig.returnType = ret) (hlk : meth.locks = false) (hX : va_X b L xs s s.heap) (hbl : b < s.heap.size) (hbA : ¬ A b) {x4 : Int32} (hi1 : vp_in (x4 + 1) L) (hi2 : vp_in (x4 + 2) L) (hi3 : vp_in (x4 + 3) L) (hi4 : vp_in (x4 + 4) L) (hi5 : vp_in (x4 + 5) L) (hcs : cells + 2 ≤ 601024 ∧ slots + 12 ≤ 7293034) (hS : Sim tx ps nm v vn hs ww z)
    (kk : ∀ (tx : Nat → Nat → Int32) (ps : Nat → Nat → Int32) (nm : Nat → Int64) (v : Nat → Nat → Int32) (vn : Nat → Int64) (hs : Nat → Nat → Int32) (ww : Nat → Nat → Nat → Int32) (out : Nat → Int64) (z : Nat → Nat → Int32) (H : Heap) (locs : List Loc) (ls : Array Slot), Sim tx ps nm v vn hs ww z → Rg D T A s (gL T aF aR aD aP aH aW aO aM tx ps nm v vn hs ww out z) H locs → lv_has ls 9 [(4, .int x4), (3, .ref aO), (2, .ref (aM 0)), (1, .ref (aF 0)), (0, .ref b)] → W p l e room_1 s m args below meth c H locs (cells + 0) (slots + 0) Q (F0 m 1909 ls []))
    (G : Rg D T A s (gL T aF aR aD aP aH aW aO aM tx ps nm v vn hs ww out z) H locs) (hl : lv_has ls 9 [(4, .int x4), (3, .ref aO), (2, .ref (aM 0)), (1, .ref (aF 0)), (0, .ref b)]) : W p l e room_1 s m args below meth c H locs cells slots Q (F0 m 1780 ls []) := by
  refine lv_aload_n F.1 F.2.1 dL_law_1780 rfl (lv_at hl 3 rfl) ?_
  obtain ⟨r, hsR, wwR, b', zR, h1, h2, hd, hSR⟩ := Hs tx ps nm v vn hs ww z hS
  refine k_callVR (rv := (some (.int r))) (Wc := gU T aF aR aD aP aH aW tx ps nm v vn hs ww) (W2 := gU T aF aR aD aP aH aW tx ps nm v vn hsR wwR) (Wn := gL T aF aR aD aP aH aW aO aM tx ps nm v vn hsR wwR out z) (As := []) (rest := []) F G (mX10_forget l D T aF aR aD aP aH aW tx ps nm v vn hs ww h1) (cwV 0 hAL (kgL_c kLl254 (kgL_c kLl255 (kgL_c kLl256 (kgL_c (kA kl80) (kgL_c (kA kl741) kgL_k))))) rfl rfl rfl (by decide +kernel) ⟨Nat.le_of_ble_eq_true rfl, Nat.le_of_ble_eq_true rfl⟩) (kg_recv G 2 0 (by decide) rfl (q := (RX10, TX10, 6)) rfl) (kCut_LU G) rfl hl.1 rfl (Nat.le_of_ble_eq_true rfl) dL_law_1781 ⟨kroom1 hcs.1 (Nat.le_of_ble_eq_true rfl), kroom1 hcs.2 (Nat.le_of_ble_eq_true rfl)⟩ (cN := cells) (sN := slots) ⟨rfl, rfl⟩ (fun H locs G => ?_)
  obtain rfl := hd
  refine lv_aload_n F.1 F.2.1 dL_law_1784 rfl (lv_at hl 2 rfl) ?_
  refine k_callVR (rv := _) (Wc := gM T aM z) (W2 := gM T aM zR) (Wn := gL T aF aR aD aP aH aW aO aM tx ps nm v vn hsR wwR out zR) (As := []) (rest := [.int r]) F G (mX11_forget l D T aM z h2) (cwV 0 hAL (kgL_c kLl257 (kgL_c kLl258 (kgL_c kLl259 (kgL_c (kA kl788) (kgL_c (kA kl1041) kgL_k))))) rfl rfl rfl (by decide +kernel) ⟨Nat.le_of_ble_eq_true rfl, Nat.le_of_ble_eq_true rfl⟩) (kg_recv G 0 0 (by decide) rfl (q := (RX11, TX11, 35)) rfl) (kCut_LM G) rfl hl.1 rfl (Nat.le_of_ble_eq_true rfl) dL_law_1785 ⟨kroom1 hcs.1 (Nat.le_of_ble_eq_true rfl), kroom1 hcs.2 (Nat.le_of_ble_eq_true rfl)⟩ (cN := cells + 0) (sN := slots + 0) ⟨rfl, rfl⟩ (fun H locs G => ?_)
  have hS := hSR
  refine lv_icmp_eq (tgt := 1909) F.1 F.2.1 dL_law_1788 (by decide) (fun c => ?_) (fun c => absurd rfl c)
  exact kk tx ps nm v vn hsR wwR out zR _ _ _ hS G hl
set_option maxHeartbeats 8000000 in
set_option maxRecDepth 100000 in
theorem lc_undo {Sim : (Nat → Nat → Int32) → (Nat → Nat → Int32) → (Nat → Int64) → (Nat → Nat → Int32) → (Nat → Int64) → (Nat → Nat → Int32) → (Nat → Nat → Nat → Int32) → (Nat → Nat → Int32) → Prop} (Hs : St_undo Sim) (hst : l.stackTraces = false) (F : CallFix p m c code 9 s args kAll RL) (hAL : ∀ w ∈ kAL, w.before args s = true) (hr : meth.sig.returnType = ret) (hlk : meth.locks = false) (hX : va_X b L xs s s.heap) (hbl : b < s.heap.size) (hbA : ¬ A b) {x4 : Int32} (hi1 : vp_in (x4 + 1) L) (hi2 : vp_in (x4 + 2) L) (hi3 : vp_in (x4 + 3) L) (hi4 : vp_in (x4 + 4) L) (hi5 : vp_in (x4 + 5) L) (hcs : cells + 2 ≤ 601024 ∧ slots + 12 ≤ 7293034) (hS : Sim tx ps nm v vn hs ww z)
    (kk : ∀ (tx : Nat → Nat → Int32) (ps : Nat → Nat → Int32) (nm : Nat → Int64) (v : Nat → Nat → Int32) (vn : Nat → Int64) (hs : Nat → Nat → Int32) (ww : Nat → Nat → Nat → Int32) (out : Nat → Int64) (z : Nat → Nat → Int32) (H : Heap) (locs : List Loc) (ls : Array Slot), Sim tx ps nm v vn hs ww z → Rg D T A s (gL T aF aR aD aP aH aW aO aM tx ps nm v vn hs ww out z) H locs → lv_has ls 9 [(4, .int x4), (3, .ref aO), (2, .ref (aM 0)), (1, .ref (aF 0)), (0, .ref b)] → W p l e room_1 s m args below meth c H locs (cells + 1) (slots + 6) Q (F0 m 1909 ls []))
    (G : Rg D T A s (gL T aF aR aD aP aH aW aO aM tx ps nm v vn hs ww out z) H locs) (hl : lv_has ls 9 [(4, .int x4), (3, .ref aO), (2, .ref (aM 0)), (1, .ref (aF 0)), (0, .ref b)]) : W p l e room_1 s m args below meth c H locs cells slots Q (F0 m 1793 ls []) := by
  refine lv_aload_n F.1 F.2.1 dL_law_1793 rfl (lv_at hl 3 rfl) ?_
  refine lv_aload_n F.1 F.2.1 dL_law_1794 rfl (lv_at hl 1 rfl) ?_
  obtain ⟨e, r, hsR, wwR, b', zR, h1, h2, hd, hSR⟩ := Hs tx ps nm v vn hs ww z hS
  rcases hd with ⟨rfl, hz, rfl⟩ | ⟨rfl, hz⟩
  · have hthr : zR 0 0 = 0 := hz
    refine kl_callSW (rv := some (.int 0)) (Wc := gO T aF aR aD aP aH aW aO tx ps nm v vn hs ww out) (W2 := gO T aF aR aD aP aH aW aO tx ps nm v vn hsR wwR (vp_updL out 0 r.toInt64)) (Wn := gL T aF aR aD aP aH aW aO aM tx ps nm v vn hsR wwR (vp_updL out 0 r.toInt64) z) (As := [.ref (aF 0), .ref aO]) (rest := []) F G (mL_undo l hst D T aF aR aD aP aH aW aO tx ps nm v vn hs ww out (k := 0) (outR := (vp_updL out 0 r.toInt64)) h1 (Or.inl ⟨rfl, rfl, rfl⟩)) (vx_cwSW 2 hAL (kgL_c kLl260 (kgL_c kLl261 (kgL_c kLl84 (kgL_c kLl262 kgL_a)))) rfl rfl rfl (by decide +kernel) ⟨Nat.le_of_ble_eq_true rfl, Nat.le_of_ble_eq_true rfl⟩) (kCut_LO G) rfl hl.1 rfl (Nat.le_of_ble_eq_true rfl) dL_law_1795 ⟨kroom1 hcs.1 (Nat.le_of_ble_eq_true rfl), kroom1 hcs.2 (Nat.le_of_ble_eq_true rfl)⟩ (cN := cells + 1) (sN := slots + 6) ⟨rfl, rfl⟩ (fun H locs G => ?_)
    have hcmp : lg_cmp ((vp_updL out 0 r.toInt64) (0 : Int32).toNatClampNeg) r.toInt64 = 0 := lg_same _ _
    refine lv_istore (lv' := [(5, .int 0), (4, .int x4), (3, .ref aO), (2, .ref (aM 0)), (1, .ref (aF 0)), (0, .ref b)]) F.1 F.2.1 dL_law_1798 hl (by decide) rfl (fun ls hl => ?_)
    refine lv_aload_n F.1 F.2.1 dL_law_1800 rfl (lv_at hl 3 rfl) ?_
    refine k_callVR (rv := _) (Wc := gM T aM z) (W2 := gM T aM zR) (Wn := gL T aF aR aD aP aH aW aO aM tx ps nm v vn hsR wwR (vp_updL out 0 r.toInt64) zR) (As := []) (rest := []) F G (mX11_undo l D T aM z h2) (cwV 0 hAL (kgL_c kLl263 (kgL_c kLl264 (kgL_c kLl265 (kgL_c (kA kl788) (kgL_c (kA kl1042) kgL_k))))) rfl rfl rfl (by decide +kernel) ⟨Nat.le_of_ble_eq_true rfl, Nat.le_of_ble_eq_true rfl⟩) (kg_recv G 0 0 (by decide) rfl (q := (RX11, TX11, 35)) rfl) (kCut_LM G) rfl hl.1 rfl (Nat.le_of_ble_eq_true rfl) dL_law_1801 ⟨kroom2 hcs.1 (Nat.le_of_ble_eq_true rfl), kroom2 hcs.2 (Nat.le_of_ble_eq_true rfl)⟩ (cN := cells + 1) (sN := slots + 6) ⟨rfl, rfl⟩ (fun H locs G => ?_)
    have hS := hSR
    refine lv_istore (lv' := [(6, .int r), (5, .int 0), (4, .int x4), (3, .ref aO), (2, .ref (aM 0)), (1, .ref (aF 0)), (0, .ref b)]) F.1 F.2.1 dL_law_1804 hl (by decide) rfl (fun ls hl => ?_)
    refine lv_aload_n F.1 F.2.1 dL_law_1806 rfl (lv_at hl 4 rfl) ?_
    refine k_callVR (rv := (some (.int (zR 0 0)))) (Wc := gM T aM zR) (W2 := gM T aM zR) (Wn := gL T aF aR aD aP aH aW aO aM tx ps nm v vn hsR wwR (vp_updL out 0 r.toInt64) zR) (As := []) (rest := []) F G (mX11_thrown l D T aM zR rfl) (cwV 0 hAL (kgL_c kLl89 (kgL_c kLl90 (kgL_c kLl91 (kgL_c (kA kl788) (kgL_c (kA kl803) kgL_k))))) rfl rfl rfl (by decide +kernel) ⟨Nat.le_of_ble_eq_true rfl, Nat.le_of_ble_eq_true rfl⟩) (kg_recv G 0 0 (by decide) rfl (q := (RX11, TX11, 35)) rfl) (kCut_LM G) rfl hl.1 rfl (Nat.le_of_ble_eq_true rfl) dL_law_1807 ⟨kroom2 hcs.1 (Nat.le_of_ble_eq_true rfl), kroom2 hcs.2 (Nat.le_of_ble_eq_true rfl)⟩ (cN := cells + 1) (sN := slots + 6) ⟨rfl, rfl⟩ (fun H locs G => ?_)
    refine lv_iload F.1 F.2.1 dL_law_1810 (lv_at hl 1 rfl) ?_
    refine lv_icmp_eq (tgt := 1817) F.1 F.2.1 dL_law_1812 (by decide) (fun c => ?_) (fun c => absurd hthr c)
    refine lv_iload F.1 F.2.1 dL_law_1817 (lv_at hl 1 rfl) ?_
    refine lv_if_ne (tgt := 1834) F.1 F.2.1 dL_law_1819 (by decide) (fun c => absurd (by decide) c) (fun c => ?_)
    refine lv_aload_n F.1 F.2.1 dL_law_1822 rfl (lv_at hl 3 rfl) ?_
    refine lv_iconst (v := 0) F.1 F.2.1 dL_law_1823 (by decide) ?_
    refine kg_lald F G 1 0 (by decide) rfl (i := 0) (kin (by decide +kernel)) dL_law_1824 ?_
    refine lv_iload F.1 F.2.1 dL_law_1825 (lv_at hl 0 rfl) ?_
    refine lv_i2l (v := r.toInt64) F.1 F.2.1 dL_law_1827 rfl ?_
    refine W.lcmp F.1 F.2.1 dL_law_1828 ?_
    refine lv_if_eq (tgt := 1834) F.1 F.2.1 dL_law_1829 (by decide) (fun c => ?_) (fun c => absurd hcmp c)
    refine lv_goto (tgt := 1909) F.1 F.2.1 dL_law_1834 (by decide) ?_
    exact kk tx ps nm v vn hsR wwR (vp_updL out 0 r.toInt64) zR _ _ _ hS G (lv_sub hl [2, 3, 4, 5, 6] rfl)
  · have hthr : zR 0 0 = 1 := hz
    refine kl_callSW (rv := some (.int 1)) (Wc := gO T aF aR aD aP aH aW aO tx ps nm v vn hs ww out) (W2 := gO T aF aR aD aP aH aW aO tx ps nm v vn hsR wwR out) (Wn := gL T aF aR aD aP aH aW aO aM tx ps nm v vn hsR wwR out z) (As := [.ref (aF 0), .ref aO]) (rest := []) F G (mL_undo l hst D T aF aR aD aP aH aW aO tx ps nm v vn hs ww out (k := 1) (outR := out) h1 (Or.inr ⟨rfl, rfl, rfl⟩)) (vx_cwSW 2 hAL (kgL_c kLl260 (kgL_c kLl261 (kgL_c kLl84 (kgL_c kLl262 kgL_a)))) rfl rfl rfl (by decide +kernel) ⟨Nat.le_of_ble_eq_true rfl, Nat.le_of_ble_eq_true rfl⟩) (kCut_LO G) rfl hl.1 rfl (Nat.le_of_ble_eq_true rfl) dL_law_1795 ⟨kroom1 hcs.1 (Nat.le_of_ble_eq_true rfl), kroom1 hcs.2 (Nat.le_of_ble_eq_true rfl)⟩ (cN := cells + 1) (sN := slots + 6) ⟨rfl, rfl⟩ (fun H locs G => ?_)
    refine lv_istore (lv' := [(5, .int 1), (4, .int x4), (3, .ref aO), (2, .ref (aM 0)), (1, .ref (aF 0)), (0, .ref b)]) F.1 F.2.1 dL_law_1798 hl (by decide) rfl (fun ls hl => ?_)
    refine lv_aload_n F.1 F.2.1 dL_law_1800 rfl (lv_at hl 3 rfl) ?_
    refine k_callVR (rv := _) (Wc := gM T aM z) (W2 := gM T aM zR) (Wn := gL T aF aR aD aP aH aW aO aM tx ps nm v vn hsR wwR out zR) (As := []) (rest := []) F G (mX11_undo l D T aM z h2) (cwV 0 hAL (kgL_c kLl263 (kgL_c kLl264 (kgL_c kLl265 (kgL_c (kA kl788) (kgL_c (kA kl1042) kgL_k))))) rfl rfl rfl (by decide +kernel) ⟨Nat.le_of_ble_eq_true rfl, Nat.le_of_ble_eq_true rfl⟩) (kg_recv G 0 0 (by decide) rfl (q := (RX11, TX11, 35)) rfl) (kCut_LM G) rfl hl.1 rfl (Nat.le_of_ble_eq_true rfl) dL_law_1801 ⟨kroom2 hcs.1 (Nat.le_of_ble_eq_true rfl), kroom2 hcs.2 (Nat.le_of_ble_eq_true rfl)⟩ (cN := cells + 1) (sN := slots + 6) ⟨rfl, rfl⟩ (fun H locs G => ?_)
    have hS := hSR
    refine lv_istore (lv' := [(6, .int b'), (5, .int 1), (4, .int x4), (3, .ref aO), (2, .ref (aM 0)), (1, .ref (aF 0)), (0, .ref b)]) F.1 F.2.1 dL_law_1804 hl (by decide) rfl (fun ls hl => ?_)
    refine lv_aload_n F.1 F.2.1 dL_law_1806 rfl (lv_at hl 4 rfl) ?_
    refine k_callVR (rv := (some (.int (zR 0 0)))) (Wc := gM T aM zR) (W2 := gM T aM zR) (Wn := gL T aF aR aD aP aH aW aO aM tx ps nm v vn hsR wwR out zR) (As := []) (rest := []) F G (mX11_thrown l D T aM zR rfl) (cwV 0 hAL (kgL_c kLl89 (kgL_c kLl90 (kgL_c kLl91 (kgL_c (kA kl788) (kgL_c (kA kl803) kgL_k))))) rfl rfl rfl (by decide +kernel) ⟨Nat.le_of_ble_eq_true rfl, Nat.le_of_ble_eq_true rfl⟩) (kg_recv G 0 0 (by decide) rfl (q := (RX11, TX11, 35)) rfl) (kCut_LM G) rfl hl.1 rfl (Nat.le_of_ble_eq_true rfl) dL_law_1807 ⟨kroom2 hcs.1 (Nat.le_of_ble_eq_true rfl), kroom2 hcs.2 (Nat.le_of_ble_eq_true rfl)⟩ (cN := cells + 1) (sN := slots + 6) ⟨rfl, rfl⟩ (fun H locs G => ?_)
    refine lv_iload F.1 F.2.1 dL_law_1810 (lv_at hl 1 rfl) ?_
    refine lv_icmp_eq (tgt := 1817) F.1 F.2.1 dL_law_1812 (by decide) (fun c => ?_) (fun c => absurd hthr c)
    refine lv_iload F.1 F.2.1 dL_law_1817 (lv_at hl 1 rfl) ?_
    refine lv_if_ne (tgt := 1834) F.1 F.2.1 dL_law_1819 (by decide) (fun c => ?_) (fun c => absurd c (by decide))
    refine lv_goto (tgt := 1909) F.1 F.2.1 dL_law_1834 (by decide) ?_
    exact kk tx ps nm v vn hsR wwR out zR _ _ _ hS G (lv_sub hl [2, 3, 4, 5, 6] rfl)
set_option maxHeartbeats 8000000 in
set_option maxRecDepth 100000 in
theorem lc_save {Sim : (Nat → Nat → Int32) → (Nat → Nat → Int32) → (Nat → Int64) → (Nat → Nat → Int32) → (Nat → Int64) → (Nat → Nat → Int32) → (Nat → Nat → Nat → Int32) → (Nat → Nat → Int32) → Prop} (Hs : St_save Sim) (hst : l.stackTraces = false) (F : CallFix p m c code 9 s args kAll RL) (hAL : ∀ w ∈ kAL, w.before args s = true) (hr : meth.sig.returnType = ret) (hlk : meth.locks = false) (hX : va_X b L xs s s.heap) (hbl : b < s.heap.size) (hbA : ¬ A b) {x4 : Int32} (hi1 : vp_in (x4 + 1) L) (hi2 : vp_in (x4 + 2) L) (hi3 : vp_in (x4 + 3) L) (hi4 : vp_in (x4 + 4) L) (hi5 : vp_in (x4 + 5) L) (hcs : cells + 2 ≤ 601024 ∧ slots + 12 ≤ 7293034) (hS : Sim tx ps nm v vn hs ww z)
    (kk : ∀ (tx : Nat → Nat → Int32) (ps : Nat → Nat → Int32) (nm : Nat → Int64) (v : Nat → Nat → Int32) (vn : Nat → Int64) (hs : Nat → Nat → Int32) (ww : Nat → Nat → Nat → Int32) (out : Nat → Int64) (z : Nat → Nat → Int32) (H : Heap) (locs : List Loc) (ls : Array Slot), Sim tx ps nm v vn hs ww z → Rg D T A s (gL T aF aR aD aP aH aW aO aM tx ps nm v vn hs ww out z) H locs → lv_has ls 9 [(4, .int x4), (3, .ref aO), (2, .ref (aM 0)), (1, .ref (aF 0)), (0, .ref b)] → W p l e room_1 s m args below meth c H locs (cells + 1) (slots + 6) Q (F0 m 1909 ls []))
    (G : Rg D T A s (gL T aF aR aD aP aH aW aO aM tx ps nm v vn hs ww out z) H locs) (hl : lv_has ls 9 [(4, .int x4), (3, .ref aO), (2, .ref (aM 0)), (1, .ref (aF 0)), (0, .ref b)]) : W p l e room_1 s m args below meth c H locs cells slots Q (F0 m 1837 ls []) := by
  refine lv_aload_n F.1 F.2.1 dL_law_1837 rfl (lv_at hl 3 rfl) ?_
  refine lv_aload_n F.1 F.2.1 dL_law_1838 rfl (lv_at hl 4 rfl) ?_
  refine lv_iload F.1 F.2.1 dL_law_1839 (lv_at hl 0 rfl) ?_
  refine lv_iconst (v := 1) F.1 F.2.1 dL_law_1841 (by decide) ?_
  refine lv_iadd F.1 F.2.1 dL_law_1842 ?_
  refine va_sld F.1 F.2.1 hX hbl hbA G.2.2.2.1 hi1 dL_law_1843 ?_
  obtain ⟨e, hsR, wwR, zR, h1, h2, hd, hSR⟩ := Hs tx ps nm v vn hs ww z hS (xs (x4 + 1).toNatClampNeg)
  rcases hd with ⟨rfl, hz, -⟩ | ⟨rfl, hz⟩
  · have hthr : zR 0 0 = 0 := hz
    refine kl_callSW (rv := some (.int 0)) (Wc := gU T aF aR aD aP aH aW tx ps nm v vn hs ww) (W2 := gU T aF aR aD aP aH aW tx ps nm v vn hsR wwR) (Wn := gL T aF aR aD aP aH aW aO aM tx ps nm v vn hsR wwR out z) (As := [.ref (aF 0), .int (xs (x4 + 1).toNatClampNeg)]) (rest := []) F G (mL_save l hst D T aF aR aD aP aH aW tx ps nm v vn hs ww (xs (x4 + 1).toNatClampNeg) (k := 0) h1 (Or.inl ⟨rfl, rfl⟩)) (vx_cwSW 2 hAL (kgL_c kLl266 (kgL_c kLl267 (kgL_c kLl84 (kgL_c kLl268 kgL_a)))) rfl rfl rfl (by decide +kernel) ⟨Nat.le_of_ble_eq_true rfl, Nat.le_of_ble_eq_true rfl⟩) (kCut_LU G) rfl hl.1 rfl (Nat.le_of_ble_eq_true rfl) dL_law_1844 ⟨kroom1 hcs.1 (Nat.le_of_ble_eq_true rfl), kroom1 hcs.2 (Nat.le_of_ble_eq_true rfl)⟩ (cN := cells + 1) (sN := slots + 6) ⟨rfl, rfl⟩ (fun H locs G => ?_)
    refine lv_istore (lv' := [(5, .int 0), (4, .int x4), (3, .ref aO), (2, .ref (aM 0)), (1, .ref (aF 0)), (0, .ref b)]) F.1 F.2.1 dL_law_1847 hl (by decide) rfl (fun ls hl => ?_)
    refine lv_aload_n F.1 F.2.1 dL_law_1849 rfl (lv_at hl 3 rfl) ?_
    refine lv_aload_n F.1 F.2.1 dL_law_1850 rfl (lv_at hl 5 rfl) ?_
    refine lv_iload F.1 F.2.1 dL_law_1851 (lv_at hl 1 rfl) ?_
    refine lv_iconst (v := 1) F.1 F.2.1 dL_law_1853 (by decide) ?_
    refine lv_iadd F.1 F.2.1 dL_law_1854 ?_
    refine va_sld F.1 F.2.1 hX hbl hbA G.2.2.2.1 hi1 dL_law_1855 ?_
    refine k_callVR (rv := _) (Wc := gM T aM z) (W2 := gM T aM zR) (Wn := gL T aF aR aD aP aH aW aO aM tx ps nm v vn hsR wwR out zR) (As := [.int (xs (x4 + 1).toNatClampNeg)]) (rest := []) F G (mX11_save l D T aM z (xs (x4 + 1).toNatClampNeg) h2) (cwV 1 hAL (kgL_c kLl269 (kgL_c kLl270 (kgL_c kLl271 (kgL_c (kA kl788) (kgL_c (kA kl1044) kgL_k))))) rfl rfl rfl (by decide +kernel) ⟨Nat.le_of_ble_eq_true rfl, Nat.le_of_ble_eq_true rfl⟩) (kg_recv G 0 0 (by decide) rfl (q := (RX11, TX11, 35)) rfl) (kCut_LM G) rfl hl.1 rfl (Nat.le_of_ble_eq_true rfl) dL_law_1856 ⟨kroom2 hcs.1 (Nat.le_of_ble_eq_true rfl), kroom2 hcs.2 (Nat.le_of_ble_eq_true rfl)⟩ (cN := cells + 1) (sN := slots + 6) ⟨rfl, rfl⟩ (fun H locs G => ?_)
    have hS := hSR
    refine lv_aload_n F.1 F.2.1 dL_law_1859 rfl (lv_at hl 3 rfl) ?_
    refine k_callVR (rv := (some (.int (zR 0 0)))) (Wc := gM T aM zR) (W2 := gM T aM zR) (Wn := gL T aF aR aD aP aH aW aO aM tx ps nm v vn hsR wwR out zR) (As := []) (rest := []) F G (mX11_thrown l D T aM zR rfl) (cwV 0 hAL (kgL_c kLl89 (kgL_c kLl90 (kgL_c kLl91 (kgL_c (kA kl788) (kgL_c (kA kl803) kgL_k))))) rfl rfl rfl (by decide +kernel) ⟨Nat.le_of_ble_eq_true rfl, Nat.le_of_ble_eq_true rfl⟩) (kg_recv G 0 0 (by decide) rfl (q := (RX11, TX11, 35)) rfl) (kCut_LM G) rfl hl.1 rfl (Nat.le_of_ble_eq_true rfl) dL_law_1860 ⟨kroom2 hcs.1 (Nat.le_of_ble_eq_true rfl), kroom2 hcs.2 (Nat.le_of_ble_eq_true rfl)⟩ (cN := cells + 1) (sN := slots + 6) ⟨rfl, rfl⟩ (fun H locs G => ?_)
    refine lv_iload F.1 F.2.1 dL_law_1863 (lv_at hl 0 rfl) ?_
    refine lv_icmp_eq (tgt := 1870) F.1 F.2.1 dL_law_1865 (by decide) (fun c => ?_) (fun c => absurd hthr c)
    refine lv_goto (tgt := 1909) F.1 F.2.1 dL_law_1870 (by decide) ?_
    exact kk tx ps nm v vn hsR wwR out zR _ _ _ hS G (lv_sub hl [1, 2, 3, 4, 5] rfl)
  · have hthr : zR 0 0 = 1 := hz
    refine kl_callSW (rv := some (.int 1)) (Wc := gU T aF aR aD aP aH aW tx ps nm v vn hs ww) (W2 := gU T aF aR aD aP aH aW tx ps nm v vn hsR wwR) (Wn := gL T aF aR aD aP aH aW aO aM tx ps nm v vn hsR wwR out z) (As := [.ref (aF 0), .int (xs (x4 + 1).toNatClampNeg)]) (rest := []) F G (mL_save l hst D T aF aR aD aP aH aW tx ps nm v vn hs ww (xs (x4 + 1).toNatClampNeg) (k := 1) h1 (Or.inr ⟨rfl, rfl⟩)) (vx_cwSW 2 hAL (kgL_c kLl266 (kgL_c kLl267 (kgL_c kLl84 (kgL_c kLl268 kgL_a)))) rfl rfl rfl (by decide +kernel) ⟨Nat.le_of_ble_eq_true rfl, Nat.le_of_ble_eq_true rfl⟩) (kCut_LU G) rfl hl.1 rfl (Nat.le_of_ble_eq_true rfl) dL_law_1844 ⟨kroom1 hcs.1 (Nat.le_of_ble_eq_true rfl), kroom1 hcs.2 (Nat.le_of_ble_eq_true rfl)⟩ (cN := cells + 1) (sN := slots + 6) ⟨rfl, rfl⟩ (fun H locs G => ?_)
    refine lv_istore (lv' := [(5, .int 1), (4, .int x4), (3, .ref aO), (2, .ref (aM 0)), (1, .ref (aF 0)), (0, .ref b)]) F.1 F.2.1 dL_law_1847 hl (by decide) rfl (fun ls hl => ?_)
    refine lv_aload_n F.1 F.2.1 dL_law_1849 rfl (lv_at hl 3 rfl) ?_
    refine lv_aload_n F.1 F.2.1 dL_law_1850 rfl (lv_at hl 5 rfl) ?_
    refine lv_iload F.1 F.2.1 dL_law_1851 (lv_at hl 1 rfl) ?_
    refine lv_iconst (v := 1) F.1 F.2.1 dL_law_1853 (by decide) ?_
    refine lv_iadd F.1 F.2.1 dL_law_1854 ?_
    refine va_sld F.1 F.2.1 hX hbl hbA G.2.2.2.1 hi1 dL_law_1855 ?_
    refine k_callVR (rv := _) (Wc := gM T aM z) (W2 := gM T aM zR) (Wn := gL T aF aR aD aP aH aW aO aM tx ps nm v vn hsR wwR out zR) (As := [.int (xs (x4 + 1).toNatClampNeg)]) (rest := []) F G (mX11_save l D T aM z (xs (x4 + 1).toNatClampNeg) h2) (cwV 1 hAL (kgL_c kLl269 (kgL_c kLl270 (kgL_c kLl271 (kgL_c (kA kl788) (kgL_c (kA kl1044) kgL_k))))) rfl rfl rfl (by decide +kernel) ⟨Nat.le_of_ble_eq_true rfl, Nat.le_of_ble_eq_true rfl⟩) (kg_recv G 0 0 (by decide) rfl (q := (RX11, TX11, 35)) rfl) (kCut_LM G) rfl hl.1 rfl (Nat.le_of_ble_eq_true rfl) dL_law_1856 ⟨kroom2 hcs.1 (Nat.le_of_ble_eq_true rfl), kroom2 hcs.2 (Nat.le_of_ble_eq_true rfl)⟩ (cN := cells + 1) (sN := slots + 6) ⟨rfl, rfl⟩ (fun H locs G => ?_)
    have hS := hSR
    refine lv_aload_n F.1 F.2.1 dL_law_1859 rfl (lv_at hl 3 rfl) ?_
    refine k_callVR (rv := (some (.int (zR 0 0)))) (Wc := gM T aM zR) (W2 := gM T aM zR) (Wn := gL T aF aR aD aP aH aW aO aM tx ps nm v vn hsR wwR out zR) (As := []) (rest := []) F G (mX11_thrown l D T aM zR rfl) (cwV 0 hAL (kgL_c kLl89 (kgL_c kLl90 (kgL_c kLl91 (kgL_c (kA kl788) (kgL_c (kA kl803) kgL_k))))) rfl rfl rfl (by decide +kernel) ⟨Nat.le_of_ble_eq_true rfl, Nat.le_of_ble_eq_true rfl⟩) (kg_recv G 0 0 (by decide) rfl (q := (RX11, TX11, 35)) rfl) (kCut_LM G) rfl hl.1 rfl (Nat.le_of_ble_eq_true rfl) dL_law_1860 ⟨kroom2 hcs.1 (Nat.le_of_ble_eq_true rfl), kroom2 hcs.2 (Nat.le_of_ble_eq_true rfl)⟩ (cN := cells + 1) (sN := slots + 6) ⟨rfl, rfl⟩ (fun H locs G => ?_)
    refine lv_iload F.1 F.2.1 dL_law_1863 (lv_at hl 0 rfl) ?_
    refine lv_icmp_eq (tgt := 1870) F.1 F.2.1 dL_law_1865 (by decide) (fun c => ?_) (fun c => absurd hthr c)
    refine lv_goto (tgt := 1909) F.1 F.2.1 dL_law_1870 (by decide) ?_
    exact kk tx ps nm v vn hsR wwR out zR _ _ _ hS G (lv_sub hl [1, 2, 3, 4, 5] rfl)
set_option maxHeartbeats 8000000 in
set_option maxRecDepth 100000 in
theorem lc_restore {Sim : (Nat → Nat → Int32) → (Nat → Nat → Int32) → (Nat → Int64) → (Nat → Nat → Int32) → (Nat → Int64) → (Nat → Nat → Int32) → (Nat → Nat → Nat → Int32) → (Nat → Nat → Int32) → Prop} (Hs : St_restore Sim) (hst : l.stackTraces = false) (F : CallFix p m c code 9 s args kAll RL) (hAL : ∀ w ∈ kAL, w.before args s = true) (hr : meth.sig.returnType = ret) (hlk : meth.locks = false) (hX : va_X b L xs s s.heap) (hbl : b < s.heap.size) (hbA : ¬ A b) {x4 : Int32} (hi1 : vp_in (x4 + 1) L) (hi2 : vp_in (x4 + 2) L) (hi3 : vp_in (x4 + 3) L) (hi4 : vp_in (x4 + 4) L) (hi5 : vp_in (x4 + 5) L) (hcs : cells + 2 ≤ 601024 ∧ slots + 12 ≤ 7293034) (hS : Sim tx ps nm v vn hs ww z)
    (kk : ∀ (tx : Nat → Nat → Int32) (ps : Nat → Nat → Int32) (nm : Nat → Int64) (v : Nat → Nat → Int32) (vn : Nat → Int64) (hs : Nat → Nat → Int32) (ww : Nat → Nat → Nat → Int32) (out : Nat → Int64) (z : Nat → Nat → Int32) (H : Heap) (locs : List Loc) (ls : Array Slot), Sim tx ps nm v vn hs ww z → Rg D T A s (gL T aF aR aD aP aH aW aO aM tx ps nm v vn hs ww out z) H locs → lv_has ls 9 [(4, .int x4), (3, .ref aO), (2, .ref (aM 0)), (1, .ref (aF 0)), (0, .ref b)] → W p l e room_1 s m args below meth c H locs (cells + 2) (slots + 12) Q (F0 m 1909 ls []))
    (G : Rg D T A s (gL T aF aR aD aP aH aW aO aM tx ps nm v vn hs ww out z) H locs) (hl : lv_has ls 9 [(4, .int x4), (3, .ref aO), (2, .ref (aM 0)), (1, .ref (aF 0)), (0, .ref b)]) : W p l e room_1 s m args below meth c H locs cells slots Q (F0 m 1873 ls []) := by
  refine lv_aload_n F.1 F.2.1 dL_law_1873 rfl (lv_at hl 3 rfl) ?_
  refine lv_aload_n F.1 F.2.1 dL_law_1874 rfl (lv_at hl 4 rfl) ?_
  refine lv_iload F.1 F.2.1 dL_law_1875 (lv_at hl 0 rfl) ?_
  refine lv_iconst (v := 1) F.1 F.2.1 dL_law_1877 (by decide) ?_
  refine lv_iadd F.1 F.2.1 dL_law_1878 ?_
  refine va_sld F.1 F.2.1 hX hbl hbA G.2.2.2.1 hi1 dL_law_1879 ?_
  obtain ⟨e, hsR, wwR, zR, h1, h2, hd, hSR⟩ := Hs tx ps nm v vn hs ww z hS (xs (x4 + 1).toNatClampNeg)
  rcases hd with ⟨rfl, hz, -⟩ | ⟨rfl, hz⟩ | ⟨rfl, hz⟩
  · have hthr : zR 0 0 = 0 := hz
    refine kl_callSW (rv := some (.int 0)) (Wc := gU T aF aR aD aP aH aW tx ps nm v vn hs ww) (W2 := gU T aF aR aD aP aH aW tx ps nm v vn hsR wwR) (Wn := gL T aF aR aD aP aH aW aO aM tx ps nm v vn hsR wwR out z) (As := [.ref (aF 0), .int (xs (x4 + 1).toNatClampNeg)]) (rest := []) F G (mL_restore l hst D T aF aR aD aP aH aW tx ps nm v vn hs ww (xs (x4 + 1).toNatClampNeg) (k := 0) h1 (Or.inl ⟨rfl, rfl⟩)) (vx_cwSW 2 hAL (kgL_c kLl272 (kgL_c kLl273 (kgL_c kLl84 (kgL_c kLl274 kgL_a)))) rfl rfl rfl (by decide +kernel) ⟨Nat.le_of_ble_eq_true rfl, Nat.le_of_ble_eq_true rfl⟩) (kCut_LU G) rfl hl.1 rfl (Nat.le_of_ble_eq_true rfl) dL_law_1880 ⟨kroom1 hcs.1 (Nat.le_of_ble_eq_true rfl), kroom1 hcs.2 (Nat.le_of_ble_eq_true rfl)⟩ (cN := cells + 2) (sN := slots + 12) ⟨rfl, rfl⟩ (fun H locs G => ?_)
    refine lv_istore (lv' := [(5, .int 0), (4, .int x4), (3, .ref aO), (2, .ref (aM 0)), (1, .ref (aF 0)), (0, .ref b)]) F.1 F.2.1 dL_law_1883 hl (by decide) rfl (fun ls hl => ?_)
    refine lv_aload_n F.1 F.2.1 dL_law_1885 rfl (lv_at hl 3 rfl) ?_
    refine lv_aload_n F.1 F.2.1 dL_law_1886 rfl (lv_at hl 5 rfl) ?_
    refine lv_iload F.1 F.2.1 dL_law_1887 (lv_at hl 1 rfl) ?_
    refine lv_iconst (v := 1) F.1 F.2.1 dL_law_1889 (by decide) ?_
    refine lv_iadd F.1 F.2.1 dL_law_1890 ?_
    refine va_sld F.1 F.2.1 hX hbl hbA G.2.2.2.1 hi1 dL_law_1891 ?_
    refine k_callVR (rv := _) (Wc := gM T aM z) (W2 := gM T aM zR) (Wn := gL T aF aR aD aP aH aW aO aM tx ps nm v vn hsR wwR out zR) (As := [.int (xs (x4 + 1).toNatClampNeg)]) (rest := []) F G (mX11_restore l D T aM z (xs (x4 + 1).toNatClampNeg) h2) (cwV 1 hAL (kgL_c kLl275 (kgL_c kLl276 (kgL_c kLl277 (kgL_c (kA kl788) (kgL_c (kA kl1047) kgL_k))))) rfl rfl rfl (by decide +kernel) ⟨Nat.le_of_ble_eq_true rfl, Nat.le_of_ble_eq_true rfl⟩) (kg_recv G 0 0 (by decide) rfl (q := (RX11, TX11, 35)) rfl) (kCut_LM G) rfl hl.1 rfl (Nat.le_of_ble_eq_true rfl) dL_law_1892 ⟨kroom2 hcs.1 (Nat.le_of_ble_eq_true rfl), kroom2 hcs.2 (Nat.le_of_ble_eq_true rfl)⟩ (cN := cells + 2) (sN := slots + 12) ⟨rfl, rfl⟩ (fun H locs G => ?_)
    have hS := hSR
    refine lv_aload_n F.1 F.2.1 dL_law_1895 rfl (lv_at hl 3 rfl) ?_
    refine k_callVR (rv := (some (.int (zR 0 0)))) (Wc := gM T aM zR) (W2 := gM T aM zR) (Wn := gL T aF aR aD aP aH aW aO aM tx ps nm v vn hsR wwR out zR) (As := []) (rest := []) F G (mX11_thrown l D T aM zR rfl) (cwV 0 hAL (kgL_c kLl89 (kgL_c kLl90 (kgL_c kLl91 (kgL_c (kA kl788) (kgL_c (kA kl803) kgL_k))))) rfl rfl rfl (by decide +kernel) ⟨Nat.le_of_ble_eq_true rfl, Nat.le_of_ble_eq_true rfl⟩) (kg_recv G 0 0 (by decide) rfl (q := (RX11, TX11, 35)) rfl) (kCut_LM G) rfl hl.1 rfl (Nat.le_of_ble_eq_true rfl) dL_law_1896 ⟨kroom2 hcs.1 (Nat.le_of_ble_eq_true rfl), kroom2 hcs.2 (Nat.le_of_ble_eq_true rfl)⟩ (cN := cells + 2) (sN := slots + 12) ⟨rfl, rfl⟩ (fun H locs G => ?_)
    refine lv_iload F.1 F.2.1 dL_law_1899 (lv_at hl 0 rfl) ?_
    refine lv_icmp_eq (tgt := 1906) F.1 F.2.1 dL_law_1901 (by decide) (fun c => ?_) (fun c => absurd hthr c)
    refine lv_goto (tgt := 1909) F.1 F.2.1 dL_law_1906 (by decide) ?_
    exact kk tx ps nm v vn hsR wwR out zR _ _ _ hS G (lv_sub hl [1, 2, 3, 4, 5] rfl)
  · have hthr : zR 0 0 = 1 := hz
    refine kl_callSW (rv := some (.int 1)) (Wc := gU T aF aR aD aP aH aW tx ps nm v vn hs ww) (W2 := gU T aF aR aD aP aH aW tx ps nm v vn hsR wwR) (Wn := gL T aF aR aD aP aH aW aO aM tx ps nm v vn hsR wwR out z) (As := [.ref (aF 0), .int (xs (x4 + 1).toNatClampNeg)]) (rest := []) F G (mL_restore l hst D T aF aR aD aP aH aW tx ps nm v vn hs ww (xs (x4 + 1).toNatClampNeg) (k := 1) h1 (Or.inr (Or.inl ⟨rfl, rfl⟩))) (vx_cwSW 2 hAL (kgL_c kLl272 (kgL_c kLl273 (kgL_c kLl84 (kgL_c kLl274 kgL_a)))) rfl rfl rfl (by decide +kernel) ⟨Nat.le_of_ble_eq_true rfl, Nat.le_of_ble_eq_true rfl⟩) (kCut_LU G) rfl hl.1 rfl (Nat.le_of_ble_eq_true rfl) dL_law_1880 ⟨kroom1 hcs.1 (Nat.le_of_ble_eq_true rfl), kroom1 hcs.2 (Nat.le_of_ble_eq_true rfl)⟩ (cN := cells + 2) (sN := slots + 12) ⟨rfl, rfl⟩ (fun H locs G => ?_)
    refine lv_istore (lv' := [(5, .int 1), (4, .int x4), (3, .ref aO), (2, .ref (aM 0)), (1, .ref (aF 0)), (0, .ref b)]) F.1 F.2.1 dL_law_1883 hl (by decide) rfl (fun ls hl => ?_)
    refine lv_aload_n F.1 F.2.1 dL_law_1885 rfl (lv_at hl 3 rfl) ?_
    refine lv_aload_n F.1 F.2.1 dL_law_1886 rfl (lv_at hl 5 rfl) ?_
    refine lv_iload F.1 F.2.1 dL_law_1887 (lv_at hl 1 rfl) ?_
    refine lv_iconst (v := 1) F.1 F.2.1 dL_law_1889 (by decide) ?_
    refine lv_iadd F.1 F.2.1 dL_law_1890 ?_
    refine va_sld F.1 F.2.1 hX hbl hbA G.2.2.2.1 hi1 dL_law_1891 ?_
    refine k_callVR (rv := _) (Wc := gM T aM z) (W2 := gM T aM zR) (Wn := gL T aF aR aD aP aH aW aO aM tx ps nm v vn hsR wwR out zR) (As := [.int (xs (x4 + 1).toNatClampNeg)]) (rest := []) F G (mX11_restore l D T aM z (xs (x4 + 1).toNatClampNeg) h2) (cwV 1 hAL (kgL_c kLl275 (kgL_c kLl276 (kgL_c kLl277 (kgL_c (kA kl788) (kgL_c (kA kl1047) kgL_k))))) rfl rfl rfl (by decide +kernel) ⟨Nat.le_of_ble_eq_true rfl, Nat.le_of_ble_eq_true rfl⟩) (kg_recv G 0 0 (by decide) rfl (q := (RX11, TX11, 35)) rfl) (kCut_LM G) rfl hl.1 rfl (Nat.le_of_ble_eq_true rfl) dL_law_1892 ⟨kroom2 hcs.1 (Nat.le_of_ble_eq_true rfl), kroom2 hcs.2 (Nat.le_of_ble_eq_true rfl)⟩ (cN := cells + 2) (sN := slots + 12) ⟨rfl, rfl⟩ (fun H locs G => ?_)
    have hS := hSR
    refine lv_aload_n F.1 F.2.1 dL_law_1895 rfl (lv_at hl 3 rfl) ?_
    refine k_callVR (rv := (some (.int (zR 0 0)))) (Wc := gM T aM zR) (W2 := gM T aM zR) (Wn := gL T aF aR aD aP aH aW aO aM tx ps nm v vn hsR wwR out zR) (As := []) (rest := []) F G (mX11_thrown l D T aM zR rfl) (cwV 0 hAL (kgL_c kLl89 (kgL_c kLl90 (kgL_c kLl91 (kgL_c (kA kl788) (kgL_c (kA kl803) kgL_k))))) rfl rfl rfl (by decide +kernel) ⟨Nat.le_of_ble_eq_true rfl, Nat.le_of_ble_eq_true rfl⟩) (kg_recv G 0 0 (by decide) rfl (q := (RX11, TX11, 35)) rfl) (kCut_LM G) rfl hl.1 rfl (Nat.le_of_ble_eq_true rfl) dL_law_1896 ⟨kroom2 hcs.1 (Nat.le_of_ble_eq_true rfl), kroom2 hcs.2 (Nat.le_of_ble_eq_true rfl)⟩ (cN := cells + 2) (sN := slots + 12) ⟨rfl, rfl⟩ (fun H locs G => ?_)
    refine lv_iload F.1 F.2.1 dL_law_1899 (lv_at hl 0 rfl) ?_
    refine lv_icmp_eq (tgt := 1906) F.1 F.2.1 dL_law_1901 (by decide) (fun c => ?_) (fun c => absurd hthr c)
    refine lv_goto (tgt := 1909) F.1 F.2.1 dL_law_1906 (by decide) ?_
    exact kk tx ps nm v vn hsR wwR out zR _ _ _ hS G (lv_sub hl [1, 2, 3, 4, 5] rfl)
  · have hthr : zR 0 0 = 2 := hz
    refine kl_callSW (rv := some (.int 2)) (Wc := gU T aF aR aD aP aH aW tx ps nm v vn hs ww) (W2 := gU T aF aR aD aP aH aW tx ps nm v vn hsR wwR) (Wn := gL T aF aR aD aP aH aW aO aM tx ps nm v vn hsR wwR out z) (As := [.ref (aF 0), .int (xs (x4 + 1).toNatClampNeg)]) (rest := []) F G (mL_restore l hst D T aF aR aD aP aH aW tx ps nm v vn hs ww (xs (x4 + 1).toNatClampNeg) (k := 2) h1 (Or.inr (Or.inr ⟨rfl, rfl⟩))) (vx_cwSW 2 hAL (kgL_c kLl272 (kgL_c kLl273 (kgL_c kLl84 (kgL_c kLl274 kgL_a)))) rfl rfl rfl (by decide +kernel) ⟨Nat.le_of_ble_eq_true rfl, Nat.le_of_ble_eq_true rfl⟩) (kCut_LU G) rfl hl.1 rfl (Nat.le_of_ble_eq_true rfl) dL_law_1880 ⟨kroom1 hcs.1 (Nat.le_of_ble_eq_true rfl), kroom1 hcs.2 (Nat.le_of_ble_eq_true rfl)⟩ (cN := cells + 2) (sN := slots + 12) ⟨rfl, rfl⟩ (fun H locs G => ?_)
    refine lv_istore (lv' := [(5, .int 2), (4, .int x4), (3, .ref aO), (2, .ref (aM 0)), (1, .ref (aF 0)), (0, .ref b)]) F.1 F.2.1 dL_law_1883 hl (by decide) rfl (fun ls hl => ?_)
    refine lv_aload_n F.1 F.2.1 dL_law_1885 rfl (lv_at hl 3 rfl) ?_
    refine lv_aload_n F.1 F.2.1 dL_law_1886 rfl (lv_at hl 5 rfl) ?_
    refine lv_iload F.1 F.2.1 dL_law_1887 (lv_at hl 1 rfl) ?_
    refine lv_iconst (v := 1) F.1 F.2.1 dL_law_1889 (by decide) ?_
    refine lv_iadd F.1 F.2.1 dL_law_1890 ?_
    refine va_sld F.1 F.2.1 hX hbl hbA G.2.2.2.1 hi1 dL_law_1891 ?_
    refine k_callVR (rv := _) (Wc := gM T aM z) (W2 := gM T aM zR) (Wn := gL T aF aR aD aP aH aW aO aM tx ps nm v vn hsR wwR out zR) (As := [.int (xs (x4 + 1).toNatClampNeg)]) (rest := []) F G (mX11_restore l D T aM z (xs (x4 + 1).toNatClampNeg) h2) (cwV 1 hAL (kgL_c kLl275 (kgL_c kLl276 (kgL_c kLl277 (kgL_c (kA kl788) (kgL_c (kA kl1047) kgL_k))))) rfl rfl rfl (by decide +kernel) ⟨Nat.le_of_ble_eq_true rfl, Nat.le_of_ble_eq_true rfl⟩) (kg_recv G 0 0 (by decide) rfl (q := (RX11, TX11, 35)) rfl) (kCut_LM G) rfl hl.1 rfl (Nat.le_of_ble_eq_true rfl) dL_law_1892 ⟨kroom2 hcs.1 (Nat.le_of_ble_eq_true rfl), kroom2 hcs.2 (Nat.le_of_ble_eq_true rfl)⟩ (cN := cells + 2) (sN := slots + 12) ⟨rfl, rfl⟩ (fun H locs G => ?_)
    have hS := hSR
    refine lv_aload_n F.1 F.2.1 dL_law_1895 rfl (lv_at hl 3 rfl) ?_
    refine k_callVR (rv := (some (.int (zR 0 0)))) (Wc := gM T aM zR) (W2 := gM T aM zR) (Wn := gL T aF aR aD aP aH aW aO aM tx ps nm v vn hsR wwR out zR) (As := []) (rest := []) F G (mX11_thrown l D T aM zR rfl) (cwV 0 hAL (kgL_c kLl89 (kgL_c kLl90 (kgL_c kLl91 (kgL_c (kA kl788) (kgL_c (kA kl803) kgL_k))))) rfl rfl rfl (by decide +kernel) ⟨Nat.le_of_ble_eq_true rfl, Nat.le_of_ble_eq_true rfl⟩) (kg_recv G 0 0 (by decide) rfl (q := (RX11, TX11, 35)) rfl) (kCut_LM G) rfl hl.1 rfl (Nat.le_of_ble_eq_true rfl) dL_law_1896 ⟨kroom2 hcs.1 (Nat.le_of_ble_eq_true rfl), kroom2 hcs.2 (Nat.le_of_ble_eq_true rfl)⟩ (cN := cells + 2) (sN := slots + 12) ⟨rfl, rfl⟩ (fun H locs G => ?_)
    refine lv_iload F.1 F.2.1 dL_law_1899 (lv_at hl 0 rfl) ?_
    refine lv_icmp_eq (tgt := 1906) F.1 F.2.1 dL_law_1901 (by decide) (fun c => ?_) (fun c => absurd hthr c)
    refine lv_goto (tgt := 1909) F.1 F.2.1 dL_law_1906 (by decide) ?_
    exact kk tx ps nm v vn hsR wwR out zR _ _ _ hS G (lv_sub hl [1, 2, 3, 4, 5] rfl)
end LC
