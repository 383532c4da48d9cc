abbrev VD : Type := (Nat → Int32) × (Nat → Int32) × (Nat → Int32) × (Nat → Int32) × (Nat → Int32) × (Nat → Int32) × (Nat → Int32) × (Nat → Int32) × (Nat → Int32) × (Nat → Int32) × (Nat → Int32) × (Nat → Int32) × Int32 × Int32 × Int32 × Int32
def v_weights (d : VD) : (Nat → Int32) := d.1
def v_costs (d : VD) : (Nat → Int32) := d.2.1
def v_lowerSums (d : VD) : (Nat → Int32) := d.2.2.1
def v_upperSums (d : VD) : (Nat → Int32) := d.2.2.2.1
def v_kinds (d : VD) : (Nat → Int32) := d.2.2.2.2.1
def v_ages (d : VD) : (Nat → Int32) := d.2.2.2.2.2.1
def v_goods (d : VD) : (Nat → Int32) := d.2.2.2.2.2.2.1
def v_terms (d : VD) : (Nat → Int32) := d.2.2.2.2.2.2.2.1
def v_children (d : VD) : (Nat → Int32) := d.2.2.2.2.2.2.2.2.1
def v_looks (d : VD) : (Nat → Int32) := d.2.2.2.2.2.2.2.2.2.1
def v_gotBy (d : VD) : (Nat → Int32) := d.2.2.2.2.2.2.2.2.2.2.1
def v_deathYears (d : VD) : (Nat → Int32) := d.2.2.2.2.2.2.2.2.2.2.2.1
def v_people (d : VD) : Int32 := d.2.2.2.2.2.2.2.2.2.2.2.2.1
def v_living (d : VD) : Int32 := d.2.2.2.2.2.2.2.2.2.2.2.2.2.1
def v_law (d : VD) : Int32 := d.2.2.2.2.2.2.2.2.2.2.2.2.2.2.1
def v_year (d : VD) : Int32 := d.2.2.2.2.2.2.2.2.2.2.2.2.2.2.2
def v_set_weights (d : VD) (x : (Nat → Int32)) : VD := (x, d.2.1, d.2.2.1, d.2.2.2.1, d.2.2.2.2.1, d.2.2.2.2.2.1, d.2.2.2.2.2.2.1, d.2.2.2.2.2.2.2.1, d.2.2.2.2.2.2.2.2.1, d.2.2.2.2.2.2.2.2.2.1, d.2.2.2.2.2.2.2.2.2.2.1, d.2.2.2.2.2.2.2.2.2.2.2.1, d.2.2.2.2.2.2.2.2.2.2.2.2.1, d.2.2.2.2.2.2.2.2.2.2.2.2.2.1, d.2.2.2.2.2.2.2.2.2.2.2.2.2.2.1, d.2.2.2.2.2.2.2.2.2.2.2.2.2.2.2)
def v_set_costs (d : VD) (x : (Nat → Int32)) : VD := (d.1, x, d.2.2.1, d.2.2.2.1, d.2.2.2.2.1, d.2.2.2.2.2.1, d.2.2.2.2.2.2.1, d.2.2.2.2.2.2.2.1, d.2.2.2.2.2.2.2.2.1, d.2.2.2.2.2.2.2.2.2.1, d.2.2.2.2.2.2.2.2.2.2.1, d.2.2.2.2.2.2.2.2.2.2.2.1, d.2.2.2.2.2.2.2.2.2.2.2.2.1, d.2.2.2.2.2.2.2.2.2.2.2.2.2.1, d.2.2.2.2.2.2.2.2.2.2.2.2.2.2.1, d.2.2.2.2.2.2.2.2.2.2.2.2.2.2.2)
def v_set_lowerSums (d : VD) (x : (Nat → Int32)) : VD := (d.1, d.2.1, x, d.2.2.2.1, d.2.2.2.2.1, d.2.2.2.2.2.1, d.2.2.2.2.2.2.1, d.2.2.2.2.2.2.2.1, d.2.2.2.2.2.2.2.2.1, d.2.2.2.2.2.2.2.2.2.1, d.2.2.2.2.2.2.2.2.2.2.1, d.2.2.2.2.2.2.2.2.2.2.2.1, d.2.2.2.2.2.2.2.2.2.2.2.2.1, d.2.2.2.2.2.2.2.2.2.2.2.2.2.1, d.2.2.2.2.2.2.2.2.2.2.2.2.2.2.1, d.2.2.2.2.2.2.2.2.2.2.2.2.2.2.2)
def v_set_upperSums (d : VD) (x : (Nat → Int32)) : VD := (d.1, d.2.1, d.2.2.1, x, d.2.2.2.2.1, d.2.2.2.2.2.1, d.2.2.2.2.2.2.1, d.2.2.2.2.2.2.2.1, d.2.2.2.2.2.2.2.2.1, d.2.2.2.2.2.2.2.2.2.1, d.2.2.2.2.2.2.2.2.2.2.1, d.2.2.2.2.2.2.2.2.2.2.2.1, d.2.2.2.2.2.2.2.2.2.2.2.2.1, d.2.2.2.2.2.2.2.2.2.2.2.2.2.1, d.2.2.2.2.2.2.2.2.2.2.2.2.2.2.1, d.2.2.2.2.2.2.2.2.2.2.2.2.2.2.2)
def v_set_kinds (d : VD) (x : (Nat → Int32)) : VD := (d.1, d.2.1, d.2.2.1, d.2.2.2.1, x, d.2.2.2.2.2.1, d.2.2.2.2.2.2.1, d.2.2.2.2.2.2.2.1, d.2.2.2.2.2.2.2.2.1, d.2.2.2.2.2.2.2.2.2.1, d.2.2.2.2.2.2.2.2.2.2.1, d.2.2.2.2.2.2.2.2.2.2.2.1, d.2.2.2.2.2.2.2.2.2.2.2.2.1, d.2.2.2.2.2.2.2.2.2.2.2.2.2.1, d.2.2.2.2.2.2.2.2.2.2.2.2.2.2.1, d.2.2.2.2.2.2.2.2.2.2.2.2.2.2.2)
def v_set_ages (d : VD) (x : (Nat → Int32)) : VD := (d.1, d.2.1, d.2.2.1, d.2.2.2.1, d.2.2.2.2.1, x, d.2.2.2.2.2.2.1, d.2.2.2.2.2.2.2.1, d.2.2.2.2.2.2.2.2.1, d.2.2.2.2.2.2.2.2.2.1, d.2.2.2.2.2.2.2.2.2.2.1, d.2.2.2.2.2.2.2.2.2.2.2.1, d.2.2.2.2.2.2.2.2.2.2.2.2.1, d.2.2.2.2.2.2.2.2.2.2.2.2.2.1, d.2.2.2.2.2.2.2.2.2.2.2.2.2.2.1, d.2.2.2.2.2.2.2.2.2.2.2.2.2.2.2)
def v_set_goods (d : VD) (x : (Nat → Int32)) : VD := (d.1, d.2.1, d.2.2.1, d.2.2.2.1, d.2.2.2.2.1, d.2.2.2.2.2.1, x, d.2.2.2.2.2.2.2.1, d.2.2.2.2.2.2.2.2.1, d.2.2.2.2.2.2.2.2.2.1, d.2.2.2.2.2.2.2.2.2.2.1, d.2.2.2.2.2.2.2.2.2.2.2.1, d.2.2.2.2.2.2.2.2.2.2.2.2.1, d.2.2.2.2.2.2.2.2.2.2.2.2.2.1, d.2.2.2.2.2.2.2.2.2.2.2.2.2.2.1, d.2.2.2.2.2.2.2.2.2.2.2.2.2.2.2)
def v_set_terms (d : VD) (x : (Nat → Int32)) : VD := (d.1, d.2.1, d.2.2.1, d.2.2.2.1, d.2.2.2.2.1, d.2.2.2.2.2.1, d.2.2.2.2.2.2.1, x, d.2.2.2.2.2.2.2.2.1, d.2.2.2.2.2.2.2.2.2.1, d.2.2.2.2.2.2.2.2.2.2.1, d.2.2.2.2.2.2.2.2.2.2.2.1, d.2.2.2.2.2.2.2.2.2.2.2.2.1, d.2.2.2.2.2.2.2.2.2.2.2.2.2.1, d.2.2.2.2.2.2.2.2.2.2.2.2.2.2.1, d.2.2.2.2.2.2.2.2.2.2.2.2.2.2.2)
def v_set_children (d : VD) (x : (Nat → Int32)) : VD := (d.1, d.2.1, d.2.2.1, d.2.2.2.1, d.2.2.2.2.1, d.2.2.2.2.2.1, d.2.2.2.2.2.2.1, d.2.2.2.2.2.2.2.1, x, d.2.2.2.2.2.2.2.2.2.1, d.2.2.2.2.2.2.2.2.2.2.1, d.2.2.2.2.2.2.2.2.2.2.2.1, d.2.2.2.2.2.2.2.2.2.2.2.2.1, d.2.2.2.2.2.2.2.2.2.2.2.2.2.1, d.2.2.2.2.2.2.2.2.2.2.2.2.2.2.1, d.2.2.2.2.2.2.2.2.2.2.2.2.2.2.2)
def v_set_looks (d : VD) (x : (Nat → Int32)) : VD := (d.1, d.2.1, d.2.2.1, d.2.2.2.1, d.2.2.2.2.1, d.2.2.2.2.2.1, d.2.2.2.2.2.2.1, d.2.2.2.2.2.2.2.1, d.2.2.2.2.2.2.2.2.1, x, d.2.2.2.2.2.2.2.2.2.2.1, d.2.2.2.2.2.2.2.2.2.2.2.1, d.2.2.2.2.2.2.2.2.2.2.2.2.1, d.2.2.2.2.2.2.2.2.2.2.2.2.2.1, d.2.2.2.2.2.2.2.2.2.2.2.2.2.2.1, d.2.2.2.2.2.2.2.2.2.2.2.2.2.2.2)
def v_set_gotBy (d : VD) (x : (Nat → Int32)) : VD := (d.1, d.2.1, d.2.2.1, d.2.2.2.1, d.2.2.2.2.1, d.2.2.2.2.2.1, d.2.2.2.2.2.2.1, d.2.2.2.2.2.2.2.1, d.2.2.2.2.2.2.2.2.1, d.2.2.2.2.2.2.2.2.2.1, x, d.2.2.2.2.2.2.2.2.2.2.2.1, d.2.2.2.2.2.2.2.2.2.2.2.2.1, d.2.2.2.2.2.2.2.2.2.2.2.2.2.1, d.2.2.2.2.2.2.2.2.2.2.2.2.2.2.1, d.2.2.2.2.2.2.2.2.2.2.2.2.2.2.2)
def v_set_deathYears (d : VD) (x : (Nat → Int32)) : VD := (d.1, d.2.1, d.2.2.1, d.2.2.2.1, d.2.2.2.2.1, d.2.2.2.2.2.1, d.2.2.2.2.2.2.1, d.2.2.2.2.2.2.2.1, d.2.2.2.2.2.2.2.2.1, d.2.2.2.2.2.2.2.2.2.1, d.2.2.2.2.2.2.2.2.2.2.1, x, d.2.2.2.2.2.2.2.2.2.2.2.2.1, d.2.2.2.2.2.2.2.2.2.2.2.2.2.1, d.2.2.2.2.2.2.2.2.2.2.2.2.2.2.1, d.2.2.2.2.2.2.2.2.2.2.2.2.2.2.2)
def v_set_people (d : VD) (x : Int32) : VD := (d.1, d.2.1, d.2.2.1, d.2.2.2.1, d.2.2.2.2.1, d.2.2.2.2.2.1, d.2.2.2.2.2.2.1, d.2.2.2.2.2.2.2.1, d.2.2.2.2.2.2.2.2.1, d.2.2.2.2.2.2.2.2.2.1, d.2.2.2.2.2.2.2.2.2.2.1, d.2.2.2.2.2.2.2.2.2.2.2.1, x, d.2.2.2.2.2.2.2.2.2.2.2.2.2.1, d.2.2.2.2.2.2.2.2.2.2.2.2.2.2.1, d.2.2.2.2.2.2.2.2.2.2.2.2.2.2.2)
def v_set_living (d : VD) (x : Int32) : VD := (d.1, d.2.1, d.2.2.1, d.2.2.2.1, d.2.2.2.2.1, d.2.2.2.2.2.1, d.2.2.2.2.2.2.1, d.2.2.2.2.2.2.2.1, d.2.2.2.2.2.2.2.2.1, d.2.2.2.2.2.2.2.2.2.1, d.2.2.2.2.2.2.2.2.2.2.1, d.2.2.2.2.2.2.2.2.2.2.2.1, d.2.2.2.2.2.2.2.2.2.2.2.2.1, x, d.2.2.2.2.2.2.2.2.2.2.2.2.2.2.1, d.2.2.2.2.2.2.2.2.2.2.2.2.2.2.2)
def v_set_law (d : VD) (x : Int32) : VD := (d.1, d.2.1, d.2.2.1, d.2.2.2.1, d.2.2.2.2.1, d.2.2.2.2.2.1, d.2.2.2.2.2.2.1, d.2.2.2.2.2.2.2.1, d.2.2.2.2.2.2.2.2.1, d.2.2.2.2.2.2.2.2.2.1, d.2.2.2.2.2.2.2.2.2.2.1, d.2.2.2.2.2.2.2.2.2.2.2.1, d.2.2.2.2.2.2.2.2.2.2.2.2.1, d.2.2.2.2.2.2.2.2.2.2.2.2.2.1, x, d.2.2.2.2.2.2.2.2.2.2.2.2.2.2.2)
def v_set_year (d : VD) (x : Int32) : VD := (d.1, d.2.1, d.2.2.1, d.2.2.2.1, d.2.2.2.2.1, d.2.2.2.2.2.1, d.2.2.2.2.2.2.1, d.2.2.2.2.2.2.2.1, d.2.2.2.2.2.2.2.2.1, d.2.2.2.2.2.2.2.2.2.1, d.2.2.2.2.2.2.2.2.2.2.1, d.2.2.2.2.2.2.2.2.2.2.2.1, d.2.2.2.2.2.2.2.2.2.2.2.2.1, d.2.2.2.2.2.2.2.2.2.2.2.2.2.1, d.2.2.2.2.2.2.2.2.2.2.2.2.2.2.1, x)
abbrev SD : Type := (Nat → Int64) × Int32 × Int32
def s_numbers (d : SD) : (Nat → Int64) := d.1
def s_bits (d : SD) : Int32 := d.2.1
def s_size (d : SD) : Int32 := d.2.2
def s_set_numbers (d : SD) (x : (Nat → Int64)) : SD := (x, d.2.1, d.2.2)
def s_set_bits (d : SD) (x : Int32) : SD := (d.1, x, d.2.2)
def s_set_size (d : SD) (x : Int32) : SD := (d.1, d.2.1, x)
abbrev TD : Type := (Nat → Int32) × Int32
def t_bytes (d : TD) : (Nat → Int32) := d.1
def t_length (d : TD) : Int32 := d.2
def t_set_bytes (d : TD) (x : (Nat → Int32)) : TD := (x, d.2)
def t_set_length (d : TD) (x : Int32) : TD := (d.1, x)
abbrev RD : Type := TD × Int32 × Int32 × Int32 × Int32 × Int32
def r_tape (d : RD) : TD := d.1
def r_token (d : RD) : Int32 := d.2.1
def r_start (d : RD) : Int32 := d.2.2.1
def r_end (d : RD) : Int32 := d.2.2.2.1
def r_number (d : RD) : Int32 := d.2.2.2.2.1
def r_isFaulty (d : RD) : Int32 := d.2.2.2.2.2
def r_set_tape (d : RD) (x : TD) : RD := (x, d.2.1, d.2.2.1, d.2.2.2.1, d.2.2.2.2.1, d.2.2.2.2.2)
def r_set_token (d : RD) (x : Int32) : RD := (d.1, x, d.2.2.1, d.2.2.2.1, d.2.2.2.2.1, d.2.2.2.2.2)
def r_set_start (d : RD) (x : Int32) : RD := (d.1, d.2.1, x, d.2.2.2.1, d.2.2.2.2.1, d.2.2.2.2.2)
def r_set_end (d : RD) (x : Int32) : RD := (d.1, d.2.1, d.2.2.1, x, d.2.2.2.2.1, d.2.2.2.2.2)
def r_set_number (d : RD) (x : Int32) : RD := (d.1, d.2.1, d.2.2.1, d.2.2.2.1, x, d.2.2.2.2.2)
def r_set_isFaulty (d : RD) (x : Int32) : RD := (d.1, d.2.1, d.2.2.1, d.2.2.2.1, d.2.2.2.2.1, x)
abbrev MD : Type := (Nat → Int32) × (Nat → Int32) × (Nat → Int32) × (Nat → Int32) × Int32 × (Nat → Int32) × (Nat → Int32) × Int32 × (Nat → Int32) × (Nat → Int32) × (Nat → Int64) × Int32 × Int32 × Int32 × Int32 × Int32 × Int32 × Int32 × Int32
def m_s (d : MD) : (Nat → Int32) := d.1
def m_kept (d : MD) : (Nat → Int32) := d.2.1
def m_close (d : MD) : (Nat → Int32) := d.2.2.1
def m_before (d : MD) : (Nat → Int32) := d.2.2.2.1
def m_isKept (d : MD) : Int32 := d.2.2.2.2.1
def m_findings (d : MD) : (Nat → Int32) := d.2.2.2.2.2.1
def m_tape (d : MD) : (Nat → Int32) := d.2.2.2.2.2.2.1
def m_taped (d : MD) : Int32 := d.2.2.2.2.2.2.2.1
def m_bitsOf (d : MD) : (Nat → Int32) := d.2.2.2.2.2.2.2.2.1
def m_sizes (d : MD) : (Nat → Int32) := d.2.2.2.2.2.2.2.2.2.1
def m_numbers (d : MD) : (Nat → Int64) := d.2.2.2.2.2.2.2.2.2.2.1
def m_heirThen (d : MD) : Int32 := d.2.2.2.2.2.2.2.2.2.2.2.1
def m_asked (d : MD) : Int32 := d.2.2.2.2.2.2.2.2.2.2.2.2.1
def m_noted (d : MD) : Int32 := d.2.2.2.2.2.2.2.2.2.2.2.2.2.1
def m_token (d : MD) : Int32 := d.2.2.2.2.2.2.2.2.2.2.2.2.2.2.1
def m_from (d : MD) : Int32 := d.2.2.2.2.2.2.2.2.2.2.2.2.2.2.2.1
def m_to (d : MD) : Int32 := d.2.2.2.2.2.2.2.2.2.2.2.2.2.2.2.2.1
def m_value (d : MD) : Int32 := d.2.2.2.2.2.2.2.2.2.2.2.2.2.2.2.2.2.1
def m_faultAt (d : MD) : Int32 := d.2.2.2.2.2.2.2.2.2.2.2.2.2.2.2.2.2.2
def m_set_s (d : MD) (x : (Nat → Int32)) : MD := (x, d.2.1, d.2.2.1, d.2.2.2.1, d.2.2.2.2.1, d.2.2.2.2.2.1, d.2.2.2.2.2.2.1, d.2.2.2.2.2.2.2.1, d.2.2.2.2.2.2.2.2.1, d.2.2.2.2.2.2.2.2.2.1, d.2.2.2.2.2.2.2.2.2.2.1, d.2.2.2.2.2.2.2.2.2.2.2.1, d.2.2.2.2.2.2.2.2.2.2.2.2.1, d.2.2.2.2.2.2.2.2.2.2.2.2.2.1, d.2.2.2.2.2.2.2.2.2.2.2.2.2.2.1, d.2.2.2.2.2.2.2.2.2.2.2.2.2.2.2.1, d.2.2.2.2.2.2.2.2.2.2.2.2.2.2.2.2.1, d.2.2.2.2.2.2.2.2.2.2.2.2.2.2.2.2.2.1, d.2.2.2.2.2.2.2.2.2.2.2.2.2.2.2.2.2.2)
def m_set_kept (d : MD) (x : (Nat → Int32)) : MD := (d.1, x, d.2.2.1, d.2.2.2.1, d.2.2.2.2.1, d.2.2.2.2.2.1, d.2.2.2.2.2.2.1, d.2.2.2.2.2.2.2.1, d.2.2.2.2.2.2.2.2.1, d.2.2.2.2.2.2.2.2.2.1, d.2.2.2.2.2.2.2.2.2.2.1, d.2.2.2.2.2.2.2.2.2.2.2.1, d.2.2.2.2.2.2.2.2.2.2.2.2.1, d.2.2.2.2.2.2.2.2.2.2.2.2.2.1, d.2.2.2.2.2.2.2.2.2.2.2.2.2.2.1, d.2.2.2.2.2.2.2.2.2.2.2.2.2.2.2.1, d.2.2.2.2.2.2.2.2.2.2.2.2.2.2.2.2.1, d.2.2.2.2.2.2.2.2.2.2.2.2.2.2.2.2.2.1, d.2.2.2.2.2.2.2.2.2.2.2.2.2.2.2.2.2.2)
def m_set_close (d : MD) (x : (Nat → Int32)) : MD := (d.1, d.2.1, x, d.2.2.2.1, d.2.2.2.2.1, d.2.2.2.2.2.1, d.2.2.2.2.2.2.1, d.2.2.2.2.2.2.2.1, d.2.2.2.2.2.2.2.2.1, d.2.2.2.2.2.2.2.2.2.1, d.2.2.2.2.2.2.2.2.2.2.1, d.2.2.2.2.2.2.2.2.2.2.2.1, d.2.2.2.2.2.2.2.2.2.2.2.2.1, d.2.2.2.2.2.2.2.2.2.2.2.2.2.1, d.2.2.2.2.2.2.2.2.2.2.2.2.2.2.1, d.2.2.2.2.2.2.2.2.2.2.2.2.2.2.2.1, d.2.2.2.2.2.2.2.2.2.2.2.2.2.2.2.2.1, d.2.2.2.2.2.2.2.2.2.2.2.2.2.2.2.2.2.1, d.2.2.2.2.2.2.2.2.2.2.2.2.2.2.2.2.2.2)
def m_set_before (d : MD) (x : (Nat → Int32)) : MD := (d.1, d.2.1, d.2.2.1, x, d.2.2.2.2.1, d.2.2.2.2.2.1, d.2.2.2.2.2.2.1, d.2.2.2.2.2.2.2.1, d.2.2.2.2.2.2.2.2.1, d.2.2.2.2.2.2.2.2.2.1, d.2.2.2.2.2.2.2.2.2.2.1, d.2.2.2.2.2.2.2.2.2.2.2.1, d.2.2.2.2.2.2.2.2.2.2.2.2.1, d.2.2.2.2.2.2.2.2.2.2.2.2.2.1, d.2.2.2.2.2.2.2.2.2.2.2.2.2.2.1, d.2.2.2.2.2.2.2.2.2.2.2.2.2.2.2.1, d.2.2.2.2.2.2.2.2.2.2.2.2.2.2.2.2.1, d.2.2.2.2.2.2.2.2.2.2.2.2.2.2.2.2.2.1, d.2.2.2.2.2.2.2.2.2.2.2.2.2.2.2.2.2.2)
def m_set_isKept (d : MD) (x : Int32) : MD := (d.1, d.2.1, d.2.2.1, d.2.2.2.1, x, d.2.2.2.2.2.1, d.2.2.2.2.2.2.1, d.2.2.2.2.2.2.2.1, d.2.2.2.2.2.2.2.2.1, d.2.2.2.2.2.2.2.2.2.1, d.2.2.2.2.2.2.2.2.2.2.1, d.2.2.2.2.2.2.2.2.2.2.2.1, d.2.2.2.2.2.2.2.2.2.2.2.2.1, d.2.2.2.2.2.2.2.2.2.2.2.2.2.1, d.2.2.2.2.2.2.2.2.2.2.2.2.2.2.1, d.2.2.2.2.2.2.2.2.2.2.2.2.2.2.2.1, d.2.2.2.2.2.2.2.2.2.2.2.2.2.2.2.2.1, d.2.2.2.2.2.2.2.2.2.2.2.2.2.2.2.2.2.1, d.2.2.2.2.2.2.2.2.2.2.2.2.2.2.2.2.2.2)
def m_set_findings (d : MD) (x : (Nat → Int32)) : MD := (d.1, d.2.1, d.2.2.1, d.2.2.2.1, d.2.2.2.2.1, x, d.2.2.2.2.2.2.1, d.2.2.2.2.2.2.2.1, d.2.2.2.2.2.2.2.2.1, d.2.2.2.2.2.2.2.2.2.1, d.2.2.2.2.2.2.2.2.2.2.1, d.2.2.2.2.2.2.2.2.2.2.2.1, d.2.2.2.2.2.2.2.2.2.2.2.2.1, d.2.2.2.2.2.2.2.2.2.2.2.2.2.1, d.2.2.2.2.2.2.2.2.2.2.2.2.2.2.1, d.2.2.2.2.2.2.2.2.2.2.2.2.2.2.2.1, d.2.2.2.2.2.2.2.2.2.2.2.2.2.2.2.2.1, d.2.2.2.2.2.2.2.2.2.2.2.2.2.2.2.2.2.1, d.2.2.2.2.2.2.2.2.2.2.2.2.2.2.2.2.2.2)
def m_set_tape (d : MD) (x : (Nat → Int32)) : MD := (d.1, d.2.1, d.2.2.1, d.2.2.2.1, d.2.2.2.2.1, d.2.2.2.2.2.1, x, d.2.2.2.2.2.2.2.1, d.2.2.2.2.2.2.2.2.1, d.2.2.2.2.2.2.2.2.2.1, d.2.2.2.2.2.2.2.2.2.2.1, d.2.2.2.2.2.2.2.2.2.2.2.1, d.2.2.2.2.2.2.2.2.2.2.2.2.1, d.2.2.2.2.2.2.2.2.2.2.2.2.2.1, d.2.2.2.2.2.2.2.2.2.2.2.2.2.2.1, d.2.2.2.2.2.2.2.2.2.2.2.2.2.2.2.1, d.2.2.2.2.2.2.2.2.2.2.2.2.2.2.2.2.1, d.2.2.2.2.2.2.2.2.2.2.2.2.2.2.2.2.2.1, d.2.2.2.2.2.2.2.2.2.2.2.2.2.2.2.2.2.2)
def m_set_taped (d : MD) (x : Int32) : MD := (d.1, d.2.1, d.2.2.1, d.2.2.2.1, d.2.2.2.2.1, d.2.2.2.2.2.1, d.2.2.2.2.2.2.1, x, d.2.2.2.2.2.2.2.2.1, d.2.2.2.2.2.2.2.2.2.1, d.2.2.2.2.2.2.2.2.2.2.1, d.2.2.2.2.2.2.2.2.2.2.2.1, d.2.2.2.2.2.2.2.2.2.2.2.2.1, d.2.2.2.2.2.2.2.2.2.2.2.2.2.1, d.2.2.2.2.2.2.2.2.2.2.2.2.2.2.1, d.2.2.2.2.2.2.2.2.2.2.2.2.2.2.2.1, d.2.2.2.2.2.2.2.2.2.2.2.2.2.2.2.2.1, d.2.2.2.2.2.2.2.2.2.2.2.2.2.2.2.2.2.1, d.2.2.2.2.2.2.2.2.2.2.2.2.2.2.2.2.2.2)
def m_set_bitsOf (d : MD) (x : (Nat → Int32)) : MD := (d.1, d.2.1, d.2.2.1, d.2.2.2.1, d.2.2.2.2.1, d.2.2.2.2.2.1, d.2.2.2.2.2.2.1, d.2.2.2.2.2.2.2.1, x, d.2.2.2.2.2.2.2.2.2.1, d.2.2.2.2.2.2.2.2.2.2.1, d.2.2.2.2.2.2.2.2.2.2.2.1, d.2.2.2.2.2.2.2.2.2.2.2.2.1, d.2.2.2.2.2.2.2.2.2.2.2.2.2.1, d.2.2.2.2.2.2.2.2.2.2.2.2.2.2.1, d.2.2.2.2.2.2.2.2.2.2.2.2.2.2.2.1, d.2.2.2.2.2.2.2.2.2.2.2.2.2.2.2.2.1, d.2.2.2.2.2.2.2.2.2.2.2.2.2.2.2.2.2.1, d.2.2.2.2.2.2.2.2.2.2.2.2.2.2.2.2.2.2)
def m_set_sizes (d : MD) (x : (Nat → Int32)) : MD := (d.1, d.2.1, d.2.2.1, d.2.2.2.1, d.2.2.2.2.1, d.2.2.2.2.2.1, d.2.2.2.2.2.2.1, d.2.2.2.2.2.2.2.1, d.2.2.2.2.2.2.2.2.1, x, d.2.2.2.2.2.2.2.2.2.2.1, d.2.2.2.2.2.2.2.2.2.2.2.1, d.2.2.2.2.2.2.2.2.2.2.2.2.1, d.2.2.2.2.2.2.2.2.2.2.2.2.2.1, d.2.2.2.2.2.2.2.2.2.2.2.2.2.2.1, d.2.2.2.2.2.2.2.2.2.2.2.2.2.2.2.1, d.2.2.2.2.2.2.2.2.2.2.2.2.2.2.2.2.1, d.2.2.2.2.2.2.2.2.2.2.2.2.2.2.2.2.2.1, d.2.2.2.2.2.2.2.2.2.2.2.2.2.2.2.2.2.2)
def m_set_numbers (d : MD) (x : (Nat → Int64)) : MD := (d.1, d.2.1, d.2.2.1, d.2.2.2.1, d.2.2.2.2.1, d.2.2.2.2.2.1, d.2.2.2.2.2.2.1, d.2.2.2.2.2.2.2.1, d.2.2.2.2.2.2.2.2.1, d.2.2.2.2.2.2.2.2.2.1, x, d.2.2.2.2.2.2.2.2.2.2.2.1, d.2.2.2.2.2.2.2.2.2.2.2.2.1, d.2.2.2.2.2.2.2.2.2.2.2.2.2.1, d.2.2.2.2.2.2.2.2.2.2.2.2.2.2.1, d.2.2.2.2.2.2.2.2.2.2.2.2.2.2.2.1, d.2.2.2.2.2.2.2.2.2.2.2.2.2.2.2.2.1, d.2.2.2.2.2.2.2.2.2.2.2.2.2.2.2.2.2.1, d.2.2.2.2.2.2.2.2.2.2.2.2.2.2.2.2.2.2)
def m_set_heirThen (d : MD) (x : Int32) : MD := (d.1, d.2.1, d.2.2.1, d.2.2.2.1, d.2.2.2.2.1, d.2.2.2.2.2.1, d.2.2.2.2.2.2.1, d.2.2.2.2.2.2.2.1, d.2.2.2.2.2.2.2.2.1, d.2.2.2.2.2.2.2.2.2.1, d.2.2.2.2.2.2.2.2.2.2.1, x, d.2.2.2.2.2.2.2.2.2.2.2.2.1, d.2.2.2.2.2.2.2.2.2.2.2.2.2.1, d.2.2.2.2.2.2.2.2.2.2.2.2.2.2.1, d.2.2.2.2.2.2.2.2.2.2.2.2.2.2.2.1, d.2.2.2.2.2.2.2.2.2.2.2.2.2.2.2.2.1, d.2.2.2.2.2.2.2.2.2.2.2.2.2.2.2.2.2.1, d.2.2.2.2.2.2.2.2.2.2.2.2.2.2.2.2.2.2)
def m_set_asked (d : MD) (x : Int32) : MD := (d.1, d.2.1, d.2.2.1, d.2.2.2.1, d.2.2.2.2.1, d.2.2.2.2.2.1, d.2.2.2.2.2.2.1, d.2.2.2.2.2.2.2.1, d.2.2.2.2.2.2.2.2.1, d.2.2.2.2.2.2.2.2.2.1, d.2.2.2.2.2.2.2.2.2.2.1, d.2.2.2.2.2.2.2.2.2.2.2.1, x, d.2.2.2.2.2.2.2.2.2.2.2.2.2.1, d.2.2.2.2.2.2.2.2.2.2.2.2.2.2.1, d.2.2.2.2.2.2.2.2.2.2.2.2.2.2.2.1, d.2.2.2.2.2.2.2.2.2.2.2.2.2.2.2.2.1, d.2.2.2.2.2.2.2.2.2.2.2.2.2.2.2.2.2.1, d.2.2.2.2.2.2.2.2.2.2.2.2.2.2.2.2.2.2)
def m_set_noted (d : MD) (x : Int32) : MD := (d.1, d.2.1, d.2.2.1, d.2.2.2.1, d.2.2.2.2.1, d.2.2.2.2.2.1, d.2.2.2.2.2.2.1, d.2.2.2.2.2.2.2.1, d.2.2.2.2.2.2.2.2.1, d.2.2.2.2.2.2.2.2.2.1, d.2.2.2.2.2.2.2.2.2.2.1, d.2.2.2.2.2.2.2.2.2.2.2.1, d.2.2.2.2.2.2.2.2.2.2.2.2.1, x, d.2.2.2.2.2.2.2.2.2.2.2.2.2.2.1, d.2.2.2.2.2.2.2.2.2.2.2.2.2.2.2.1, d.2.2.2.2.2.2.2.2.2.2.2.2.2.2.2.2.1, d.2.2.2.2.2.2.2.2.2.2.2.2.2.2.2.2.2.1, d.2.2.2.2.2.2.2.2.2.2.2.2.2.2.2.2.2.2)
def m_set_token (d : MD) (x : Int32) : MD := (d.1, d.2.1, d.2.2.1, d.2.2.2.1, d.2.2.2.2.1, d.2.2.2.2.2.1, d.2.2.2.2.2.2.1, d.2.2.2.2.2.2.2.1, d.2.2.2.2.2.2.2.2.1, d.2.2.2.2.2.2.2.2.2.1, d.2.2.2.2.2.2.2.2.2.2.1, d.2.2.2.2.2.2.2.2.2.2.2.1, d.2.2.2.2.2.2.2.2.2.2.2.2.1, d.2.2.2.2.2.2.2.2.2.2.2.2.2.1, x, d.2.2.2.2.2.2.2.2.2.2.2.2.2.2.2.1, d.2.2.2.2.2.2.2.2.2.2.2.2.2.2.2.2.1, d.2.2.2.2.2.2.2.2.2.2.2.2.2.2.2.2.2.1, d.2.2.2.2.2.2.2.2.2.2.2.2.2.2.2.2.2.2)
def m_set_from (d : MD) (x : Int32) : MD := (d.1, d.2.1, d.2.2.1, d.2.2.2.1, d.2.2.2.2.1, d.2.2.2.2.2.1, d.2.2.2.2.2.2.1, d.2.2.2.2.2.2.2.1, d.2.2.2.2.2.2.2.2.1, d.2.2.2.2.2.2.2.2.2.1, d.2.2.2.2.2.2.2.2.2.2.1, d.2.2.2.2.2.2.2.2.2.2.2.1, d.2.2.2.2.2.2.2.2.2.2.2.2.1, d.2.2.2.2.2.2.2.2.2.2.2.2.2.1, d.2.2.2.2.2.2.2.2.2.2.2.2.2.2.1, x, d.2.2.2.2.2.2.2.2.2.2.2.2.2.2.2.2.1, d.2.2.2.2.2.2.2.2.2.2.2.2.2.2.2.2.2.1, d.2.2.2.2.2.2.2.2.2.2.2.2.2.2.2.2.2.2)
def m_set_to (d : MD) (x : Int32) : MD := (d.1, d.2.1, d.2.2.1, d.2.2.2.1, d.2.2.2.2.1, d.2.2.2.2.2.1, d.2.2.2.2.2.2.1, d.2.2.2.2.2.2.2.1, d.2.2.2.2.2.2.2.2.1, d.2.2.2.2.2.2.2.2.2.1, d.2.2.2.2.2.2.2.2.2.2.1, d.2.2.2.2.2.2.2.2.2.2.2.1, d.2.2.2.2.2.2.2.2.2.2.2.2.1, d.2.2.2.2.2.2.2.2.2.2.2.2.2.1, d.2.2.2.2.2.2.2.2.2.2.2.2.2.2.1, d.2.2.2.2.2.2.2.2.2.2.2.2.2.2.2.1, x, d.2.2.2.2.2.2.2.2.2.2.2.2.2.2.2.2.2.1, d.2.2.2.2.2.2.2.2.2.2.2.2.2.2.2.2.2.2)
def m_set_value (d : MD) (x : Int32) : MD := (d.1, d.2.1, d.2.2.1, d.2.2.2.1, d.2.2.2.2.1, d.2.2.2.2.2.1, d.2.2.2.2.2.2.1, d.2.2.2.2.2.2.2.1, d.2.2.2.2.2.2.2.2.1, d.2.2.2.2.2.2.2.2.2.1, d.2.2.2.2.2.2.2.2.2.2.1, d.2.2.2.2.2.2.2.2.2.2.2.1, d.2.2.2.2.2.2.2.2.2.2.2.2.1, d.2.2.2.2.2.2.2.2.2.2.2.2.2.1, d.2.2.2.2.2.2.2.2.2.2.2.2.2.2.1, d.2.2.2.2.2.2.2.2.2.2.2.2.2.2.2.1, d.2.2.2.2.2.2.2.2.2.2.2.2.2.2.2.2.1, x, d.2.2.2.2.2.2.2.2.2.2.2.2.2.2.2.2.2.2)
def m_set_faultAt (d : MD) (x : Int32) : MD := (d.1, d.2.1, d.2.2.1, d.2.2.2.1, d.2.2.2.2.1, d.2.2.2.2.2.1, d.2.2.2.2.2.2.1, d.2.2.2.2.2.2.2.1, d.2.2.2.2.2.2.2.2.1, d.2.2.2.2.2.2.2.2.2.1, d.2.2.2.2.2.2.2.2.2.2.1, d.2.2.2.2.2.2.2.2.2.2.2.1, d.2.2.2.2.2.2.2.2.2.2.2.2.1, d.2.2.2.2.2.2.2.2.2.2.2.2.2.1, d.2.2.2.2.2.2.2.2.2.2.2.2.2.2.1, d.2.2.2.2.2.2.2.2.2.2.2.2.2.2.2.1, d.2.2.2.2.2.2.2.2.2.2.2.2.2.2.2.2.1, d.2.2.2.2.2.2.2.2.2.2.2.2.2.2.2.2.2.1, x)
abbrev XD : Type := VD × VD × VD × RD × (Nat → SD) × (Nat → Int32) × Int32
def x_valley (d : XD) : VD := d.1
def x_kept (d : XD) : VD := d.2.1
def x_trial (d : XD) : VD := d.2.2.1
def x_reader (d : XD) : RD := d.2.2.2.1
def x_sheets (d : XD) : (Nat → SD) := d.2.2.2.2.1
def x_tally (d : XD) : (Nat → Int32) := d.2.2.2.2.2.1
def x_isKept (d : XD) : Int32 := d.2.2.2.2.2.2
def x_set_valley (d : XD) (x : VD) : XD := (x, d.2.1, d.2.2.1, d.2.2.2.1, d.2.2.2.2.1, d.2.2.2.2.2.1, d.2.2.2.2.2.2)
def x_set_kept (d : XD) (x : VD) : XD := (d.1, x, d.2.2.1, d.2.2.2.1, d.2.2.2.2.1, d.2.2.2.2.2.1, d.2.2.2.2.2.2)
def x_set_trial (d : XD) (x : VD) : XD := (d.1, d.2.1, x, d.2.2.2.1, d.2.2.2.2.1, d.2.2.2.2.2.1, d.2.2.2.2.2.2)
def x_set_reader (d : XD) (x : RD) : XD := (d.1, d.2.1, d.2.2.1, x, d.2.2.2.2.1, d.2.2.2.2.2.1, d.2.2.2.2.2.2)
def x_set_sheets (d : XD) (x : (Nat → SD)) : XD := (d.1, d.2.1, d.2.2.1, d.2.2.2.1, x, d.2.2.2.2.2.1, d.2.2.2.2.2.2)
def x_set_tally (d : XD) (x : (Nat → Int32)) : XD := (d.1, d.2.1, d.2.2.1, d.2.2.2.1, d.2.2.2.2.1, x, d.2.2.2.2.2.2)
def x_set_isKept (d : XD) (x : Int32) : XD := (d.1, d.2.1, d.2.2.1, d.2.2.2.1, d.2.2.2.2.1, d.2.2.2.2.2.1, x)
def sAt (f : Nat → SD) (i : Nat) : SD := f i
def sPut (f : Nat → SD) (i : Nat) (d : SD) : Nat → SD := fun k => bif Nat.beq k i then d else f k
def ACI (g : gE) (a n : Nat) (f : Nat → Int32) : va_W := [(a, .inl (gI g, n, .inl f))]
def ACJ (g : gE) (a n : Nat) (f : Nat → Int64) : va_W := [(a, .inl (gJ g, n, .inr (.inl f)))]
def VO (g : gE) (q : Nat → Nat) (d : VD) : va_W := [((q 0), .inr (3, [.ref (q 1), .ref (q 2), .ref (q 3), .ref (q 4), .ref (q 5), .ref (q 6), .ref (q 7), .ref (q 8), .ref (q 9), .ref (q 10), .ref (q 11), .ref (q 12), .int (v_people d), .int (v_living d), .int (v_law d), .int (v_year d)]))]
def VW (g : gE) (q : Nat → Nat) (d : VD) : va_W := [((q 0), .inr (3, [.ref (q 1), .ref (q 2), .ref (q 3), .ref (q 4), .ref (q 5), .ref (q 6), .ref (q 7), .ref (q 8), .ref (q 9), .ref (q 10), .ref (q 11), .ref (q 12), .int (v_people d), .int (v_living d), .int (v_law d), .int (v_year d)])), ((q 1), .inl (gI g, 9, .inl (v_weights d)))]
def VC (g : gE) (q : Nat → Nat) (d : VD) : va_W := [((q 0), .inr (3, [.ref (q 1), .ref (q 2), .ref (q 3), .ref (q 4), .ref (q 5), .ref (q 6), .ref (q 7), .ref (q 8), .ref (q 9), .ref (q 10), .ref (q 11), .ref (q 12), .int (v_people d), .int (v_living d), .int (v_law d), .int (v_year d)])), ((q 1), .inl (gI g, 9, .inl (v_weights d))), ((q 2), .inl (gI g, 9, .inl (v_costs d))), ((q 3), .inl (gI g, 32, .inl (v_lowerSums d))), ((q 4), .inl (gI g, 16, .inl (v_upperSums d))), ((q 5), .inl (gI g, 12, .inl (v_kinds d))), ((q 6), .inl (gI g, 12, .inl (v_ages d))), ((q 7), .inl (gI g, 12, .inl (v_goods d))), ((q 8), .inl (gI g, 12, .inl (v_terms d))), ((q 9), .inl (gI g, 13, .inl (v_children d))), ((q 10), .inl (gI g, 13, .inl (v_looks d))), ((q 11), .inl (gI g, 12, .inl (v_gotBy d))), ((q 12), .inl (gI g, 12, .inl (v_deathYears d)))]
def SC (g : gE) (q : Nat → Nat) (d : SD) : va_W := [((q 0), .inr (0, [.ref (q 1), .int (s_bits d), .int (s_size d)])), ((q 1), .inl (gJ g, 40, .inr (.inl (s_numbers d))))]
def TC (g : gE) (q : Nat → Nat) (d : TD) : va_W := [((q 0), .inr (1, [.ref (q 1), .int (t_length d)])), ((q 1), .inl (gB g, 120, .inl (t_bytes d)))]
def RC (g : gE) (q : Nat → Nat) (d : RD) : va_W := [((q 0), .inr (2, [.ref (qs 1 q 0), .int (r_token d), .int (r_start d), .int (r_end d), .int (r_number d), .int (r_isFaulty d)]))] ++ TC g (qs 1 q) (r_tape d)
def MC (g : gE) (q : Nat → Nat) (d : MD) : va_W := [((q 0), .inr (5, [.ref (q 1), .ref (q 2), .ref (q 3), .ref (q 4), .int (m_isKept d), .ref (q 5), .ref (q 6), .int (m_taped d), .ref (q 7), .ref (q 8), .ref (q 9), .int (m_heirThen d), .int (m_asked d), .int (m_noted d), .int (m_token d), .int (m_from d), .int (m_to d), .int (m_value d), .int (m_faultAt d)])), ((q 1), .inl (gI g, 201, .inl (m_s d))), ((q 2), .inl (gI g, 201, .inl (m_kept d))), ((q 3), .inl (gI g, 201, .inl (m_close d))), ((q 4), .inl (gI g, 201, .inl (m_before d))), ((q 5), .inl (gI g, 8, .inl (m_findings d))), ((q 6), .inl (gI g, 120, .inl (m_tape d))), ((q 7), .inl (gI g, 4, .inl (m_bitsOf d))), ((q 8), .inl (gI g, 4, .inl (m_sizes d))), ((q 9), .inl (gJ g, 160, .inr (.inl (m_numbers d))))]
def shR (q : Nat → Nat) (i : Nat) : Option Nat := some (q (45 + 2 * i))
def XC (g : gE) (q : Nat → Nat) (d : XD) : va_W := [(q 0, .inr (4, [.ref (qs 1 q 0), .ref (qs 14 q 0), .ref (qs 27 q 0), .ref (qs 40 q 0), .ref (q 43), .ref (q 44), .int (x_isKept d)]))] ++ (VC g (qs 1 q) (x_valley d) ++ (VC g (qs 14 q) (x_kept d) ++ (VC g (qs 27 q) (x_trial d) ++ (RC g (qs 40 q) (x_reader d) ++ ([(q 43, .inl (gO g, 4, .inr (.inr (.inr (.inr (shR q)))))), (q 44, .inl (gI g, 7, .inl (x_tally d)))] ++ (SC g (qs 45 q) (sAt (x_sheets d) 0) ++ (SC g (qs 47 q) (sAt (x_sheets d) 1) ++ (SC g (qs 49 q) (sAt (x_sheets d) 2) ++ (SC g (qs 51 q) (sAt (x_sheets d) 3))))))))))
theorem VC_len (g : gE) (q : Nat → Nat) (d : VD) : (VC g q d).length = 13 := rfl
theorem VC_ll (g : gE) (q : Nat → Nat) (d d' : VD) : (VC g q d).length = (VC g q d').length := (VC_len g q d).trans (VC_len g q d').symm
theorem SC_len (g : gE) (q : Nat → Nat) (d : SD) : (SC g q d).length = 2 := rfl
theorem SC_ll (g : gE) (q : Nat → Nat) (d d' : SD) : (SC g q d).length = (SC g q d').length := (SC_len g q d).trans (SC_len g q d').symm
theorem TC_len (g : gE) (q : Nat → Nat) (d : TD) : (TC g q d).length = 2 := rfl
theorem TC_ll (g : gE) (q : Nat → Nat) (d d' : TD) : (TC g q d).length = (TC g q d').length := (TC_len g q d).trans (TC_len g q d').symm
theorem RC_len (g : gE) (q : Nat → Nat) (d : RD) : (RC g q d).length = 3 := rfl
theorem RC_ll (g : gE) (q : Nat → Nat) (d d' : RD) : (RC g q d).length = (RC g q d').length := (RC_len g q d).trans (RC_len g q d').symm
theorem MC_len (g : gE) (q : Nat → Nat) (d : MD) : (MC g q d).length = 10 := rfl
theorem MC_ll (g : gE) (q : Nat → Nat) (d d' : MD) : (MC g q d).length = (MC g q d').length := (MC_len g q d).trans (MC_len g q d').symm
theorem VO_len (g : gE) (q : Nat → Nat) (d : VD) : (VO g q d).length = 1 := rfl
theorem VO_ll (g : gE) (q : Nat → Nat) (d d' : VD) : (VO g q d).length = (VO g q d').length := (VO_len g q d).trans (VO_len g q d').symm
theorem VW_len (g : gE) (q : Nat → Nat) (d : VD) : (VW g q d).length = 2 := rfl
theorem VW_ll (g : gE) (q : Nat → Nat) (d d' : VD) : (VW g q d).length = (VW g q d').length := (VW_len g q d).trans (VW_len g q d').symm
theorem RV_ll (g : gE) (q q2 : Nat → Nat) (d d' : RD) (o o' : VD) : (RC g q d ++ VC g q2 o).length = (RC g q d' ++ VC g q2 o').length := by simp only [List.length_append, RC_len, VC_len]
theorem ctV_A_1 (g : gE) (q : Nat → Nat) (d : VD) (u : Nat → Int32) : Ct (VC g q d) (ACI g (q 1) 9 (v_weights d)) (VC g q (v_set_weights d u)) (ACI g (q 1) 9 u) := ⟨[1], [0, 2, 3, 4, 5, 6, 7, 8, 9, 10, 11, 12], rfl, rfl, rfl, by decide, fun k hk => ct_cov (n := 13) (by decide) k hk, by decide⟩
theorem ctV_OA_1 (g : gE) (q : Nat → Nat) (d : VD) : Ct (VC g q d) (VO g q d ++ ACI g (q 1) 9 (v_weights d)) (VC g q d) (VO g q d ++ ACI g (q 1) 9 (v_weights d)) := ⟨[0, 1], [2, 3, 4, 5, 6, 7, 8, 9, 10, 11, 12], rfl, rfl, rfl, by decide, fun k hk => ct_cov (n := 13) (by decide) k hk, by decide⟩
theorem ctV_A_2 (g : gE) (q : Nat → Nat) (d : VD) (u : Nat → Int32) : Ct (VC g q d) (ACI g (q 2) 9 (v_costs d)) (VC g q (v_set_costs d u)) (ACI g (q 2) 9 u) := ⟨[2], [0, 1, 3, 4, 5, 6, 7, 8, 9, 10, 11, 12], rfl, rfl, rfl, by decide, fun k hk => ct_cov (n := 13) (by decide) k hk, by decide⟩
theorem ctV_OA_2 (g : gE) (q : Nat → Nat) (d : VD) : Ct (VC g q d) (VO g q d ++ ACI g (q 2) 9 (v_costs d)) (VC g q d) (VO g q d ++ ACI g (q 2) 9 (v_costs d)) := ⟨[0, 2], [1, 3, 4, 5, 6, 7, 8, 9, 10, 11, 12], rfl, rfl, rfl, by decide, fun k hk => ct_cov (n := 13) (by decide) k hk, by decide⟩
theorem ctV_A_3 (g : gE) (q : Nat → Nat) (d : VD) (u : Nat → Int32) : Ct (VC g q d) (ACI g (q 3) 32 (v_lowerSums d)) (VC g q (v_set_lowerSums d u)) (ACI g (q 3) 32 u) := ⟨[3], [0, 1, 2, 4, 5, 6, 7, 8, 9, 10, 11, 12], rfl, rfl, rfl, by decide, fun k hk => ct_cov (n := 13) (by decide) k hk, by decide⟩
theorem ctV_OA_3 (g : gE) (q : Nat → Nat) (d : VD) : Ct (VC g q d) (VO g q d ++ ACI g (q 3) 32 (v_lowerSums d)) (VC g q d) (VO g q d ++ ACI g (q 3) 32 (v_lowerSums d)) := ⟨[0, 3], [1, 2, 4, 5, 6, 7, 8, 9, 10, 11, 12], rfl, rfl, rfl, by decide, fun k hk => ct_cov (n := 13) (by decide) k hk, by decide⟩
theorem ctV_A_4 (g : gE) (q : Nat → Nat) (d : VD) (u : Nat → Int32) : Ct (VC g q d) (ACI g (q 4) 16 (v_upperSums d)) (VC g q (v_set_upperSums d u)) (ACI g (q 4) 16 u) := ⟨[4], [0, 1, 2, 3, 5, 6, 7, 8, 9, 10, 11, 12], rfl, rfl, rfl, by decide, fun k hk => ct_cov (n := 13) (by decide) k hk, by decide⟩
theorem ctV_OA_4 (g : gE) (q : Nat → Nat) (d : VD) : Ct (VC g q d) (VO g q d ++ ACI g (q 4) 16 (v_upperSums d)) (VC g q d) (VO g q d ++ ACI g (q 4) 16 (v_upperSums d)) := ⟨[0, 4], [1, 2, 3, 5, 6, 7, 8, 9, 10, 11, 12], rfl, rfl, rfl, by decide, fun k hk => ct_cov (n := 13) (by decide) k hk, by decide⟩
theorem ctV_A_5 (g : gE) (q : Nat → Nat) (d : VD) (u : Nat → Int32) : Ct (VC g q d) (ACI g (q 5) 12 (v_kinds d)) (VC g q (v_set_kinds d u)) (ACI g (q 5) 12 u) := ⟨[5], [0, 1, 2, 3, 4, 6, 7, 8, 9, 10, 11, 12], rfl, rfl, rfl, by decide, fun k hk => ct_cov (n := 13) (by decide) k hk, by decide⟩
theorem ctV_OA_5 (g : gE) (q : Nat → Nat) (d : VD) : Ct (VC g q d) (VO g q d ++ ACI g (q 5) 12 (v_kinds d)) (VC g q d) (VO g q d ++ ACI g (q 5) 12 (v_kinds d)) := ⟨[0, 5], [1, 2, 3, 4, 6, 7, 8, 9, 10, 11, 12], rfl, rfl, rfl, by decide, fun k hk => ct_cov (n := 13) (by decide) k hk, by decide⟩
theorem ctV_A_6 (g : gE) (q : Nat → Nat) (d : VD) (u : Nat → Int32) : Ct (VC g q d) (ACI g (q 6) 12 (v_ages d)) (VC g q (v_set_ages d u)) (ACI g (q 6) 12 u) := ⟨[6], [0, 1, 2, 3, 4, 5, 7, 8, 9, 10, 11, 12], rfl, rfl, rfl, by decide, fun k hk => ct_cov (n := 13) (by decide) k hk, by decide⟩
theorem ctV_OA_6 (g : gE) (q : Nat → Nat) (d : VD) : Ct (VC g q d) (VO g q d ++ ACI g (q 6) 12 (v_ages d)) (VC g q d) (VO g q d ++ ACI g (q 6) 12 (v_ages d)) := ⟨[0, 6], [1, 2, 3, 4, 5, 7, 8, 9, 10, 11, 12], rfl, rfl, rfl, by decide, fun k hk => ct_cov (n := 13) (by decide) k hk, by decide⟩
theorem ctV_A_7 (g : gE) (q : Nat → Nat) (d : VD) (u : Nat → Int32) : Ct (VC g q d) (ACI g (q 7) 12 (v_goods d)) (VC g q (v_set_goods d u)) (ACI g (q 7) 12 u) := ⟨[7], [0, 1, 2, 3, 4, 5, 6, 8, 9, 10, 11, 12], rfl, rfl, rfl, by decide, fun k hk => ct_cov (n := 13) (by decide) k hk, by decide⟩
theorem ctV_OA_7 (g : gE) (q : Nat → Nat) (d : VD) : Ct (VC g q d) (VO g q d ++ ACI g (q 7) 12 (v_goods d)) (VC g q d) (VO g q d ++ ACI g (q 7) 12 (v_goods d)) := ⟨[0, 7], [1, 2, 3, 4, 5, 6, 8, 9, 10, 11, 12], rfl, rfl, rfl, by decide, fun k hk => ct_cov (n := 13) (by decide) k hk, by decide⟩
theorem ctV_A_8 (g : gE) (q : Nat → Nat) (d : VD) (u : Nat → Int32) : Ct (VC g q d) (ACI g (q 8) 12 (v_terms d)) (VC g q (v_set_terms d u)) (ACI g (q 8) 12 u) := ⟨[8], [0, 1, 2, 3, 4, 5, 6, 7, 9, 10, 11, 12], rfl, rfl, rfl, by decide, fun k hk => ct_cov (n := 13) (by decide) k hk, by decide⟩
theorem ctV_OA_8 (g : gE) (q : Nat → Nat) (d : VD) : Ct (VC g q d) (VO g q d ++ ACI g (q 8) 12 (v_terms d)) (VC g q d) (VO g q d ++ ACI g (q 8) 12 (v_terms d)) := ⟨[0, 8], [1, 2, 3, 4, 5, 6, 7, 9, 10, 11, 12], rfl, rfl, rfl, by decide, fun k hk => ct_cov (n := 13) (by decide) k hk, by decide⟩
theorem ctV_A_9 (g : gE) (q : Nat → Nat) (d : VD) (u : Nat → Int32) : Ct (VC g q d) (ACI g (q 9) 13 (v_children d)) (VC g q (v_set_children d u)) (ACI g (q 9) 13 u) := ⟨[9], [0, 1, 2, 3, 4, 5, 6, 7, 8, 10, 11, 12], rfl, rfl, rfl, by decide, fun k hk => ct_cov (n := 13) (by decide) k hk, by decide⟩
theorem ctV_OA_9 (g : gE) (q : Nat → Nat) (d : VD) : Ct (VC g q d) (VO g q d ++ ACI g (q 9) 13 (v_children d)) (VC g q d) (VO g q d ++ ACI g (q 9) 13 (v_children d)) := ⟨[0, 9], [1, 2, 3, 4, 5, 6, 7, 8, 10, 11, 12], rfl, rfl, rfl, by decide, fun k hk => ct_cov (n := 13) (by decide) k hk, by decide⟩
theorem ctV_A_10 (g : gE) (q : Nat → Nat) (d : VD) (u : Nat → Int32) : Ct (VC g q d) (ACI g (q 10) 13 (v_looks d)) (VC g q (v_set_looks d u)) (ACI g (q 10) 13 u) := ⟨[10], [0, 1, 2, 3, 4, 5, 6, 7, 8, 9, 11, 12], rfl, rfl, rfl, by decide, fun k hk => ct_cov (n := 13) (by decide) k hk, by decide⟩
theorem ctV_OA_10 (g : gE) (q : Nat → Nat) (d : VD) : Ct (VC g q d) (VO g q d ++ ACI g (q 10) 13 (v_looks d)) (VC g q d) (VO g q d ++ ACI g (q 10) 13 (v_looks d)) := ⟨[0, 10], [1, 2, 3, 4, 5, 6, 7, 8, 9, 11, 12], rfl, rfl, rfl, by decide, fun k hk => ct_cov (n := 13) (by decide) k hk, by decide⟩
theorem ctV_A_11 (g : gE) (q : Nat → Nat) (d : VD) (u : Nat → Int32) : Ct (VC g q d) (ACI g (q 11) 12 (v_gotBy d)) (VC g q (v_set_gotBy d u)) (ACI g (q 11) 12 u) := ⟨[11], [0, 1, 2, 3, 4, 5, 6, 7, 8, 9, 10, 12], rfl, rfl, rfl, by decide, fun k hk => ct_cov (n := 13) (by decide) k hk, by decide⟩
theorem ctV_OA_11 (g : gE) (q : Nat → Nat) (d : VD) : Ct (VC g q d) (VO g q d ++ ACI g (q 11) 12 (v_gotBy d)) (VC g q d) (VO g q d ++ ACI g (q 11) 12 (v_gotBy d)) := ⟨[0, 11], [1, 2, 3, 4, 5, 6, 7, 8, 9, 10, 12], rfl, rfl, rfl, by decide, fun k hk => ct_cov (n := 13) (by decide) k hk, by decide⟩
theorem ctV_A_12 (g : gE) (q : Nat → Nat) (d : VD) (u : Nat → Int32) : Ct (VC g q d) (ACI g (q 12) 12 (v_deathYears d)) (VC g q (v_set_deathYears d u)) (ACI g (q 12) 12 u) := ⟨[12], [0, 1, 2, 3, 4, 5, 6, 7, 8, 9, 10, 11], rfl, rfl, rfl, by decide, fun k hk => ct_cov (n := 13) (by decide) k hk, by decide⟩
theorem ctV_OA_12 (g : gE) (q : Nat → Nat) (d : VD) : Ct (VC g q d) (VO g q d ++ ACI g (q 12) 12 (v_deathYears d)) (VC g q d) (VO g q d ++ ACI g (q 12) 12 (v_deathYears d)) := ⟨[0, 12], [1, 2, 3, 4, 5, 6, 7, 8, 9, 10, 11], rfl, rfl, rfl, by decide, fun k hk => ct_cov (n := 13) (by decide) k hk, by decide⟩
theorem XC_len (g : gE) (q : Nat → Nat) (d : XD) : (XC g q d).length = 53 := by simp only [XC, List.length_append, VC_len, RC_len, SC_len, List.length_cons, List.length_nil]
theorem XC_ll (g : gE) (q : Nat → Nat) (d d' : XD) : (XC g q d).length = (XC g q d').length := (XC_len g q d).trans (XC_len g q d').symm
