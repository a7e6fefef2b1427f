def PL_person (kc : Mem) (v : Mem) (b : Mem) (r : Nat → Mem) (ou : Nat → Int64) (p2 : Int32) (post : Int32 → Mem → Mem → (Nat → Mem) → (Nat → Int64) → Prop) : Prop :=
  PX7_person_x kc v b r p2 (fun rz v1 b1 r1 => ∀ oz : Nat → Int64, oz = vp_updL ou 0 rz.toInt64 → post 0 v1 b1 r1 oz) (fun code => (code = 0 ∧ post 1 v b r ou))

def PL_marry (kc : Mem) (v : Mem) (b : Mem) (r : Nat → Mem) (ou : Nat → Int64) (p2 : Int32) (p3 : Int32) (post : Int32 → Mem → Mem → (Nat → Mem) → (Nat → Int64) → Prop) : Prop :=
  PX7_marry_x kc v b r p2 p3 (fun rz v1 b1 r1 => ∀ oz : Nat → Int64, oz = vp_updL ou 0 rz.toInt64 → post 0 v1 b1 r1 oz) (fun code => (code = 0 ∧ post 1 v b r ou) ∨ (code = 1 ∧ post 2 v b r ou))

def PL_child (kc : Mem) (v : Mem) (b : Mem) (r : Nat → Mem) (ou : Nat → Int64) (p2 : Int32) (post : Int32 → Mem → Mem → (Nat → Mem) → (Nat → Int64) → Prop) : Prop :=
  PX7_child_x kc v b r p2 (fun rz v1 b1 r1 => ∀ oz : Nat → Int64, oz = vp_updL ou 0 rz.toInt64 → post 0 v1 b1 r1 oz) (fun code => (code = 0 ∧ post 1 v b r ou))

def PL_swap (kc : Mem) (v : Mem) (b : Mem) (r : Nat → Mem) (y : Mem) (ou : Nat → Int64) (p2 : Int32) (p3 : Int32) (post : Int32 → Mem → Mem → (Nat → Mem) → Mem → (Nat → Int64) → Prop) : Prop :=
  PX7_swap_x kc v b r y p2 p3 (fun rz v1 b1 r1 y1 => ∀ oz : Nat → Int64, oz = vp_updL ou 0 rz.toInt64 → post 0 v1 b1 r1 y1 oz) (fun code => (code = 0 ∧ post 1 v b r y ou) ∨ (code = 1 ∧ post 2 v b r y ou))

def PL_byParents (kc : Mem) (v : Mem) (b : Mem) (r : Nat → Mem) (o : Mem) (ou : Nat → Int64) (p2 : Int32) (post : Int32 → Mem → Mem → (Nat → Mem) → Mem → (Nat → Int64) → Prop) : Prop :=
  PX7_byParents_x kc v b r o p2 (fun rz v1 b1 r1 o1 => ∀ oz : Nat → Int64, oz = vp_updL ou 0 rz.toInt64 → post 0 v1 b1 r1 o1 oz) (fun code => (code = 0 ∧ post 1 v b r o ou))

def PL_untangle (kc : Mem) (v : Mem) (b : Mem) (r : Nat → Mem) (x : Mem) (ou : Nat → Int64) (p2 : Int32) (post : Int32 → Mem → Mem → (Nat → Mem) → Mem → (Nat → Int64) → Prop) : Prop :=
  PX7_untangle_x kc v b r x p2 (fun rz v1 b1 r1 x1 => ∀ oz : Nat → Int64, oz = vp_updL ou 0 rz.toInt64 → post 0 v1 b1 r1 x1 oz) (fun code => (code = 0 ∧ post 1 v b r x ou))

def PL_append (kc : Mem) (tx : Mem) (ou : Nat → Int64) (p2 : Int32) (post : Int32 → Mem → (Nat → Int64) → Prop) : Prop :=
  PX7_append_x kc tx p2 (fun rz tx1 => ∀ oz : Nat → Int64, oz = vp_updL ou 0 rz.toInt64 → post 0 tx1 oz) (fun code => (code = 1 ∧ post 1 tx ou) ∨ (code = 2 ∧ post 2 tx ou))

def PL_run (kc : Mem) (v : Mem) (b : Mem) (r : Nat → Mem) (tx : Mem) (ou : Nat → Int64) (post : Int32 → Mem → Mem → (Nat → Mem) → Mem → (Nat → Int64) → Prop) : Prop :=
  PX7_run_x kc v b r tx  (fun rz v1 b1 r1 tx1 => ∀ oz : Nat → Int64, oz = vp_updL ou 0 rz.toInt64 → post 0 v1 b1 r1 tx1 oz) (fun code => (code = 1 ∧ post 1 v b r tx ou))

def PL_keep (kc : Mem) (v : Mem) (sl : Nat → Mem) (ou : Nat → Int64) (p2 : Int32) (post : Int32 → Mem → (Nat → Mem) → (Nat → Int64) → Prop) : Prop :=
  PX7_keep_x kc v sl p2 (fun rz kc1 sl1 => ∀ oz : Nat → Int64, oz = vp_updL ou 0 rz.toInt64 → post 0 kc1 sl1 oz) (fun code => (code = 1 ∧ post 1 kc sl ou))

def PL_goBack (kc : Mem) (v : Mem) (sl : Nat → Mem) (b : Mem) (r : Nat → Mem) (ou : Nat → Int64) (p2 : Int32) (post : Int32 → Mem → Mem → (Nat → Mem) → (Nat → Int64) → Prop) : Prop :=
  PX7_goBack_x kc v sl b r p2 (fun rz v1 b1 r1 => ∀ oz : Nat → Int64, oz = vp_updL ou 0 rz.toInt64 → post 0 v1 b1 r1 oz) (fun code => (code = 1 ∧ post 1 v b r ou) ∨ (code = 2 ∧ post 2 v b r ou))

def PL_undo (kc : Mem) (v : Mem) (b : Mem) (r : Nat → Mem) (ou : Nat → Int64) (post : Int32 → Mem → Mem → (Nat → Int64) → Prop) : Prop :=
  PX7_undo_x kc v b r  (fun rz v1 b1 => ∀ oz : Nat → Int64, oz = vp_updL ou 0 rz.toInt64 → post 0 v1 b1 oz) (fun code => (code = 2 ∧ post 1 v b ou))

def PL_personOf (kc : Mem) (v : Mem) (ou : Nat → Int64) (p2 : Int32) (p3 : Int32) (post : Int32 → (Nat → Int64) → Prop) : Prop :=
  PX7_personOf_x kc v p2 p3 (fun rz => ∀ oz : Nat → Int64, oz = vp_updL ou 0 rz.toInt64 → post 0  oz) (fun code => (code = 0 ∧ post 1 ou) ∨ (code = 1 ∧ post 2 ou))

def PL_coupleOf (kc : Mem) (v : Mem) (ou : Nat → Int64) (p2 : Int32) (p3 : Int32) (post : Int32 → (Nat → Int64) → Prop) : Prop :=
  PX7_coupleOf_x kc v p2 p3 (fun rz => ∀ oz : Nat → Int64, oz = vp_updL ou 0 rz.toInt64 → post 0  oz) (fun code => (code = 0 ∧ post 1 ou) ∨ (code = 1 ∧ post 2 ou))

def PL_at (kc : Mem) (v : Mem) (ou : Nat → Int64) (p2 : Int32) (p3 : Int32) (post : Int32 → (Nat → Int64) → Prop) : Prop :=
  PX7_at_x kc v p2 p3 (fun rz => ∀ oz : Nat → Int64, oz = vp_updL ou 0 rz.toInt64 → post 0  oz) (fun code => (code = 0 ∧ post 1 ou) ∨ (code = 1 ∧ post 2 ou))

def PL_crossings (kc : Mem) (v : Mem) (y : Mem) (ou : Nat → Int64) (p2 : Int32) (p3 : Int32) (post : Int32 → Mem → (Nat → Int64) → Prop) : Prop :=
  PX7_crossings_x kc v y p2 p3 (fun rz y1 => ∀ oz : Nat → Int64, oz = vp_updL ou 0 rz.toInt64 → post 0 y1 oz) (fun code => (code = 0 ∧ post 1 y ou) ∨ (code = 1 ∧ post 2 y ou))

def PL_count (kc : Mem) (v : Mem) (b : Mem) (y : Mem) (ou : Nat → Int64) (p2 : Int32) (post : Int32 → Mem → (Nat → Int64) → Prop) : Prop :=
  PX7_count_x kc v b y p2 (fun rz y1 => ∀ oz : Nat → Int64, oz = vp_updL ou 0 rz.toInt64 → post 0 y1 oz) (fun code => (code = 1 ∧ post 1 y ou))

def PL_least (kc : Mem) (v : Mem) (x : Mem) (ou : Nat → Int64) (p2 : Int32) (p3 : Int32) (post : Int32 → Mem → (Nat → Int64) → Prop) : Prop :=
  PX7_least_x kc v x p2 p3 (fun rz x1 => ∀ oz : Nat → Int64, oz = vp_updL ou 0 rz.toInt64 → post 0 x1 oz) (fun code => (code = 0 ∧ post 1 x ou) ∨ (code = 1 ∧ post 2 x ou))

def PL_nearness (kc : Mem) (v : Mem) (ou : Nat → Int64) (p2 : Int32) (p3 : Int32) (post : Int32 → (Nat → Int64) → Prop) : Prop :=
  PX7_nearness_x kc v p2 p3 (fun rz => ∀ oz : Nat → Int64, oz = vp_updL ou 0 rz.toInt64 → post 0  oz) (fun code => (code = 0 ∧ post 1 ou))
