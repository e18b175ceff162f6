def nUD : Nat := 11500
abbrev SumS : Type := Int32 × Int32 × (Nat → Int32) × (Nat → Int64) × (Nat → Int64)
def gS_size (z : SumS) : Int32 := z.1
def gS_ov (z : SumS) : Int32 := z.2.1
def gS_keys (z : SumS) : (Nat → Int32) := z.2.2.1
def gS_tops (z : SumS) : (Nat → Int64) := z.2.2.2.1
def gS_bots (z : SumS) : (Nat → Int64) := z.2.2.2.2
def uS_size (z : SumS) (v : Int32) : SumS := (v, z.2.1, z.2.2.1, z.2.2.2.1, z.2.2.2.2)
def uS_ov (z : SumS) (v : Int32) : SumS := (z.1, v, z.2.2.1, z.2.2.2.1, z.2.2.2.2)
def uS_keys (z : SumS) (v : (Nat → Int32)) : SumS := (z.1, z.2.1, v, z.2.2.2.1, z.2.2.2.2)
def uS_tops (z : SumS) (v : (Nat → Int64)) : SumS := (z.1, z.2.1, z.2.2.1, v, z.2.2.2.2)
def uS_bots (z : SumS) (v : (Nat → Int64)) : SumS := (z.1, z.2.1, z.2.2.1, z.2.2.2.1, v)
theorem gS_size_size (z : SumS) (v : Int32) : gS_size (uS_size z v) = v := rfl
theorem gS_size_ov (z : SumS) (v : Int32) : gS_size (uS_ov z v) = gS_size z := rfl
theorem gS_size_keys (z : SumS) (v : (Nat → Int32)) : gS_size (uS_keys z v) = gS_size z := rfl
theorem gS_size_tops (z : SumS) (v : (Nat → Int64)) : gS_size (uS_tops z v) = gS_size z := rfl
theorem gS_size_bots (z : SumS) (v : (Nat → Int64)) : gS_size (uS_bots z v) = gS_size z := rfl
theorem gS_ov_size (z : SumS) (v : Int32) : gS_ov (uS_size z v) = gS_ov z := rfl
theorem gS_ov_ov (z : SumS) (v : Int32) : gS_ov (uS_ov z v) = v := rfl
theorem gS_ov_keys (z : SumS) (v : (Nat → Int32)) : gS_ov (uS_keys z v) = gS_ov z := rfl
theorem gS_ov_tops (z : SumS) (v : (Nat → Int64)) : gS_ov (uS_tops z v) = gS_ov z := rfl
theorem gS_ov_bots (z : SumS) (v : (Nat → Int64)) : gS_ov (uS_bots z v) = gS_ov z := rfl
theorem gS_keys_size (z : SumS) (v : Int32) : gS_keys (uS_size z v) = gS_keys z := rfl
theorem gS_keys_ov (z : SumS) (v : Int32) : gS_keys (uS_ov z v) = gS_keys z := rfl
theorem gS_keys_keys (z : SumS) (v : (Nat → Int32)) : gS_keys (uS_keys z v) = v := rfl
theorem gS_keys_tops (z : SumS) (v : (Nat → Int64)) : gS_keys (uS_tops z v) = gS_keys z := rfl
theorem gS_keys_bots (z : SumS) (v : (Nat → Int64)) : gS_keys (uS_bots z v) = gS_keys z := rfl
theorem gS_tops_size (z : SumS) (v : Int32) : gS_tops (uS_size z v) = gS_tops z := rfl
theorem gS_tops_ov (z : SumS) (v : Int32) : gS_tops (uS_ov z v) = gS_tops z := rfl
theorem gS_tops_keys (z : SumS) (v : (Nat → Int32)) : gS_tops (uS_keys z v) = gS_tops z := rfl
theorem gS_tops_tops (z : SumS) (v : (Nat → Int64)) : gS_tops (uS_tops z v) = v := rfl
theorem gS_tops_bots (z : SumS) (v : (Nat → Int64)) : gS_tops (uS_bots z v) = gS_tops z := rfl
theorem gS_bots_size (z : SumS) (v : Int32) : gS_bots (uS_size z v) = gS_bots z := rfl
theorem gS_bots_ov (z : SumS) (v : Int32) : gS_bots (uS_ov z v) = gS_bots z := rfl
theorem gS_bots_keys (z : SumS) (v : (Nat → Int32)) : gS_bots (uS_keys z v) = gS_bots z := rfl
theorem gS_bots_tops (z : SumS) (v : (Nat → Int64)) : gS_bots (uS_tops z v) = gS_bots z := rfl
theorem gS_bots_bots (z : SumS) (v : (Nat → Int64)) : gS_bots (uS_bots z v) = v := rfl
abbrev LineS : Type := Int32 × (Nat → Int32)
def gL_len (z : LineS) : Int32 := z.1
def gL_ch (z : LineS) : (Nat → Int32) := z.2
def uL_len (z : LineS) (v : Int32) : LineS := (v, z.2)
def uL_ch (z : LineS) (v : (Nat → Int32)) : LineS := (z.1, v)
theorem gL_len_len (z : LineS) (v : Int32) : gL_len (uL_len z v) = v := rfl
theorem gL_len_ch (z : LineS) (v : (Nat → Int32)) : gL_len (uL_ch z v) = gL_len z := rfl
theorem gL_ch_len (z : LineS) (v : Int32) : gL_ch (uL_len z v) = gL_ch z := rfl
theorem gL_ch_ch (z : LineS) (v : (Nat → Int32)) : gL_ch (uL_ch z v) = v := rfl
abbrev RdS : Type := Int32 × Int32 × Int32 × Int64 × Int64 × Int32 × Int32 × Int32
def gR_at (z : RdS) : Int32 := z.1
def gR_fault (z : RdS) : Int32 := z.2.1
def gR_place (z : RdS) : Int32 := z.2.2.1
def gR_top (z : RdS) : Int64 := z.2.2.2.1
def gR_bottom (z : RdS) : Int64 := z.2.2.2.2.1
def gR_power (z : RdS) : Int32 := z.2.2.2.2.2.1
def gR_kind (z : RdS) : Int32 := z.2.2.2.2.2.2.1
def gR_arg (z : RdS) : Int32 := z.2.2.2.2.2.2.2
def uR_at (z : RdS) (v : Int32) : RdS := (v, z.2.1, z.2.2.1, z.2.2.2.1, z.2.2.2.2.1, z.2.2.2.2.2.1, z.2.2.2.2.2.2.1, z.2.2.2.2.2.2.2)
def uR_fault (z : RdS) (v : Int32) : RdS := (z.1, v, z.2.2.1, z.2.2.2.1, z.2.2.2.2.1, z.2.2.2.2.2.1, z.2.2.2.2.2.2.1, z.2.2.2.2.2.2.2)
def uR_place (z : RdS) (v : Int32) : RdS := (z.1, z.2.1, v, z.2.2.2.1, z.2.2.2.2.1, z.2.2.2.2.2.1, z.2.2.2.2.2.2.1, z.2.2.2.2.2.2.2)
def uR_top (z : RdS) (v : Int64) : RdS := (z.1, z.2.1, z.2.2.1, v, z.2.2.2.2.1, z.2.2.2.2.2.1, z.2.2.2.2.2.2.1, z.2.2.2.2.2.2.2)
def uR_bottom (z : RdS) (v : Int64) : RdS := (z.1, z.2.1, z.2.2.1, z.2.2.2.1, v, z.2.2.2.2.2.1, z.2.2.2.2.2.2.1, z.2.2.2.2.2.2.2)
def uR_power (z : RdS) (v : Int32) : RdS := (z.1, z.2.1, z.2.2.1, z.2.2.2.1, z.2.2.2.2.1, v, z.2.2.2.2.2.2.1, z.2.2.2.2.2.2.2)
def uR_kind (z : RdS) (v : Int32) : RdS := (z.1, z.2.1, z.2.2.1, z.2.2.2.1, z.2.2.2.2.1, z.2.2.2.2.2.1, v, z.2.2.2.2.2.2.2)
def uR_arg (z : RdS) (v : Int32) : RdS := (z.1, z.2.1, z.2.2.1, z.2.2.2.1, z.2.2.2.2.1, z.2.2.2.2.2.1, z.2.2.2.2.2.2.1, v)
theorem gR_at_at (z : RdS) (v : Int32) : gR_at (uR_at z v) = v := rfl
theorem gR_at_fault (z : RdS) (v : Int32) : gR_at (uR_fault z v) = gR_at z := rfl
theorem gR_at_place (z : RdS) (v : Int32) : gR_at (uR_place z v) = gR_at z := rfl
theorem gR_at_top (z : RdS) (v : Int64) : gR_at (uR_top z v) = gR_at z := rfl
theorem gR_at_bottom (z : RdS) (v : Int64) : gR_at (uR_bottom z v) = gR_at z := rfl
theorem gR_at_power (z : RdS) (v : Int32) : gR_at (uR_power z v) = gR_at z := rfl
theorem gR_at_kind (z : RdS) (v : Int32) : gR_at (uR_kind z v) = gR_at z := rfl
theorem gR_at_arg (z : RdS) (v : Int32) : gR_at (uR_arg z v) = gR_at z := rfl
theorem gR_fault_at (z : RdS) (v : Int32) : gR_fault (uR_at z v) = gR_fault z := rfl
theorem gR_fault_fault (z : RdS) (v : Int32) : gR_fault (uR_fault z v) = v := rfl
theorem gR_fault_place (z : RdS) (v : Int32) : gR_fault (uR_place z v) = gR_fault z := rfl
theorem gR_fault_top (z : RdS) (v : Int64) : gR_fault (uR_top z v) = gR_fault z := rfl
theorem gR_fault_bottom (z : RdS) (v : Int64) : gR_fault (uR_bottom z v) = gR_fault z := rfl
theorem gR_fault_power (z : RdS) (v : Int32) : gR_fault (uR_power z v) = gR_fault z := rfl
theorem gR_fault_kind (z : RdS) (v : Int32) : gR_fault (uR_kind z v) = gR_fault z := rfl
theorem gR_fault_arg (z : RdS) (v : Int32) : gR_fault (uR_arg z v) = gR_fault z := rfl
theorem gR_place_at (z : RdS) (v : Int32) : gR_place (uR_at z v) = gR_place z := rfl
theorem gR_place_fault (z : RdS) (v : Int32) : gR_place (uR_fault z v) = gR_place z := rfl
theorem gR_place_place (z : RdS) (v : Int32) : gR_place (uR_place z v) = v := rfl
theorem gR_place_top (z : RdS) (v : Int64) : gR_place (uR_top z v) = gR_place z := rfl
theorem gR_place_bottom (z : RdS) (v : Int64) : gR_place (uR_bottom z v) = gR_place z := rfl
theorem gR_place_power (z : RdS) (v : Int32) : gR_place (uR_power z v) = gR_place z := rfl
theorem gR_place_kind (z : RdS) (v : Int32) : gR_place (uR_kind z v) = gR_place z := rfl
theorem gR_place_arg (z : RdS) (v : Int32) : gR_place (uR_arg z v) = gR_place z := rfl
theorem gR_top_at (z : RdS) (v : Int32) : gR_top (uR_at z v) = gR_top z := rfl
theorem gR_top_fault (z : RdS) (v : Int32) : gR_top (uR_fault z v) = gR_top z := rfl
theorem gR_top_place (z : RdS) (v : Int32) : gR_top (uR_place z v) = gR_top z := rfl
theorem gR_top_top (z : RdS) (v : Int64) : gR_top (uR_top z v) = v := rfl
theorem gR_top_bottom (z : RdS) (v : Int64) : gR_top (uR_bottom z v) = gR_top z := rfl
theorem gR_top_power (z : RdS) (v : Int32) : gR_top (uR_power z v) = gR_top z := rfl
theorem gR_top_kind (z : RdS) (v : Int32) : gR_top (uR_kind z v) = gR_top z := rfl
theorem gR_top_arg (z : RdS) (v : Int32) : gR_top (uR_arg z v) = gR_top z := rfl
theorem gR_bottom_at (z : RdS) (v : Int32) : gR_bottom (uR_at z v) = gR_bottom z := rfl
theorem gR_bottom_fault (z : RdS) (v : Int32) : gR_bottom (uR_fault z v) = gR_bottom z := rfl
theorem gR_bottom_place (z : RdS) (v : Int32) : gR_bottom (uR_place z v) = gR_bottom z := rfl
theorem gR_bottom_top (z : RdS) (v : Int64) : gR_bottom (uR_top z v) = gR_bottom z := rfl
theorem gR_bottom_bottom (z : RdS) (v : Int64) : gR_bottom (uR_bottom z v) = v := rfl
theorem gR_bottom_power (z : RdS) (v : Int32) : gR_bottom (uR_power z v) = gR_bottom z := rfl
theorem gR_bottom_kind (z : RdS) (v : Int32) : gR_bottom (uR_kind z v) = gR_bottom z := rfl
theorem gR_bottom_arg (z : RdS) (v : Int32) : gR_bottom (uR_arg z v) = gR_bottom z := rfl
theorem gR_power_at (z : RdS) (v : Int32) : gR_power (uR_at z v) = gR_power z := rfl
theorem gR_power_fault (z : RdS) (v : Int32) : gR_power (uR_fault z v) = gR_power z := rfl
theorem gR_power_place (z : RdS) (v : Int32) : gR_power (uR_place z v) = gR_power z := rfl
theorem gR_power_top (z : RdS) (v : Int64) : gR_power (uR_top z v) = gR_power z := rfl
theorem gR_power_bottom (z : RdS) (v : Int64) : gR_power (uR_bottom z v) = gR_power z := rfl
theorem gR_power_power (z : RdS) (v : Int32) : gR_power (uR_power z v) = v := rfl
theorem gR_power_kind (z : RdS) (v : Int32) : gR_power (uR_kind z v) = gR_power z := rfl
theorem gR_power_arg (z : RdS) (v : Int32) : gR_power (uR_arg z v) = gR_power z := rfl
theorem gR_kind_at (z : RdS) (v : Int32) : gR_kind (uR_at z v) = gR_kind z := rfl
theorem gR_kind_fault (z : RdS) (v : Int32) : gR_kind (uR_fault z v) = gR_kind z := rfl
theorem gR_kind_place (z : RdS) (v : Int32) : gR_kind (uR_place z v) = gR_kind z := rfl
theorem gR_kind_top (z : RdS) (v : Int64) : gR_kind (uR_top z v) = gR_kind z := rfl
theorem gR_kind_bottom (z : RdS) (v : Int64) : gR_kind (uR_bottom z v) = gR_kind z := rfl
theorem gR_kind_power (z : RdS) (v : Int32) : gR_kind (uR_power z v) = gR_kind z := rfl
theorem gR_kind_kind (z : RdS) (v : Int32) : gR_kind (uR_kind z v) = v := rfl
theorem gR_kind_arg (z : RdS) (v : Int32) : gR_kind (uR_arg z v) = gR_kind z := rfl
theorem gR_arg_at (z : RdS) (v : Int32) : gR_arg (uR_at z v) = gR_arg z := rfl
theorem gR_arg_fault (z : RdS) (v : Int32) : gR_arg (uR_fault z v) = gR_arg z := rfl
theorem gR_arg_place (z : RdS) (v : Int32) : gR_arg (uR_place z v) = gR_arg z := rfl
theorem gR_arg_top (z : RdS) (v : Int64) : gR_arg (uR_top z v) = gR_arg z := rfl
theorem gR_arg_bottom (z : RdS) (v : Int64) : gR_arg (uR_bottom z v) = gR_arg z := rfl
theorem gR_arg_power (z : RdS) (v : Int32) : gR_arg (uR_power z v) = gR_arg z := rfl
theorem gR_arg_kind (z : RdS) (v : Int32) : gR_arg (uR_kind z v) = gR_arg z := rfl
theorem gR_arg_arg (z : RdS) (v : Int32) : gR_arg (uR_arg z v) = v := rfl
abbrev WrS : Type := Int32 × (Nat → Int32)
def gW_len (z : WrS) : Int32 := z.1
def gW_ch (z : WrS) : (Nat → Int32) := z.2
def uW_len (z : WrS) (v : Int32) : WrS := (v, z.2)
def uW_ch (z : WrS) (v : (Nat → Int32)) : WrS := (z.1, v)
theorem gW_len_len (z : WrS) (v : Int32) : gW_len (uW_len z v) = v := rfl
theorem gW_len_ch (z : WrS) (v : (Nat → Int32)) : gW_len (uW_ch z v) = gW_len z := rfl
theorem gW_ch_len (z : WrS) (v : Int32) : gW_ch (uW_len z v) = gW_ch z := rfl
theorem gW_ch_ch (z : WrS) (v : (Nat → Int32)) : gW_ch (uW_ch z v) = v := rfl
abbrev MdS : Type := Int32 × Int32 × Int32 × Int32 × Int32 × Int32 × Int32 × Int64 × Int64 × (Nat → Int32) × (Nat → Int32) × (Nat → Int64) × (Nat → Int64)
def gM_refusal (z : MdS) : Int32 := z.1
def gM_lineSize (z : MdS) : Int32 := z.2.1
def gM_outSize (z : MdS) : Int32 := z.2.2.1
def gM_wrongPlace (z : MdS) : Int32 := z.2.2.2.1
def gM_isFull (z : MdS) : Int32 := z.2.2.2.2.1
def gM_at (z : MdS) : Int32 := z.2.2.2.2.2.1
def gM_fault (z : MdS) : Int32 := z.2.2.2.2.2.2.1
def gM_top (z : MdS) : Int64 := z.2.2.2.2.2.2.2.1
def gM_bottom (z : MdS) : Int64 := z.2.2.2.2.2.2.2.2.1
def gM_line (z : MdS) : (Nat → Int32) := z.2.2.2.2.2.2.2.2.2.1
def gM_out (z : MdS) : (Nat → Int32) := z.2.2.2.2.2.2.2.2.2.2.1
def gM_up (z : MdS) : (Nat → Int64) := z.2.2.2.2.2.2.2.2.2.2.2.1
def gM_down (z : MdS) : (Nat → Int64) := z.2.2.2.2.2.2.2.2.2.2.2.2
def uM_refusal (z : MdS) (v : Int32) : MdS := (v, z.2.1, z.2.2.1, z.2.2.2.1, z.2.2.2.2.1, z.2.2.2.2.2.1, z.2.2.2.2.2.2.1, z.2.2.2.2.2.2.2.1, z.2.2.2.2.2.2.2.2.1, z.2.2.2.2.2.2.2.2.2.1, z.2.2.2.2.2.2.2.2.2.2.1, z.2.2.2.2.2.2.2.2.2.2.2.1, z.2.2.2.2.2.2.2.2.2.2.2.2)
def uM_lineSize (z : MdS) (v : Int32) : MdS := (z.1, v, z.2.2.1, z.2.2.2.1, z.2.2.2.2.1, z.2.2.2.2.2.1, z.2.2.2.2.2.2.1, z.2.2.2.2.2.2.2.1, z.2.2.2.2.2.2.2.2.1, z.2.2.2.2.2.2.2.2.2.1, z.2.2.2.2.2.2.2.2.2.2.1, z.2.2.2.2.2.2.2.2.2.2.2.1, z.2.2.2.2.2.2.2.2.2.2.2.2)
def uM_outSize (z : MdS) (v : Int32) : MdS := (z.1, z.2.1, v, z.2.2.2.1, z.2.2.2.2.1, z.2.2.2.2.2.1, z.2.2.2.2.2.2.1, z.2.2.2.2.2.2.2.1, z.2.2.2.2.2.2.2.2.1, z.2.2.2.2.2.2.2.2.2.1, z.2.2.2.2.2.2.2.2.2.2.1, z.2.2.2.2.2.2.2.2.2.2.2.1, z.2.2.2.2.2.2.2.2.2.2.2.2)
def uM_wrongPlace (z : MdS) (v : Int32) : MdS := (z.1, z.2.1, z.2.2.1, v, z.2.2.2.2.1, z.2.2.2.2.2.1, z.2.2.2.2.2.2.1, z.2.2.2.2.2.2.2.1, z.2.2.2.2.2.2.2.2.1, z.2.2.2.2.2.2.2.2.2.1, z.2.2.2.2.2.2.2.2.2.2.1, z.2.2.2.2.2.2.2.2.2.2.2.1, z.2.2.2.2.2.2.2.2.2.2.2.2)
def uM_isFull (z : MdS) (v : Int32) : MdS := (z.1, z.2.1, z.2.2.1, z.2.2.2.1, v, z.2.2.2.2.2.1, z.2.2.2.2.2.2.1, z.2.2.2.2.2.2.2.1, z.2.2.2.2.2.2.2.2.1, z.2.2.2.2.2.2.2.2.2.1, z.2.2.2.2.2.2.2.2.2.2.1, z.2.2.2.2.2.2.2.2.2.2.2.1, z.2.2.2.2.2.2.2.2.2.2.2.2)
def uM_at (z : MdS) (v : Int32) : MdS := (z.1, z.2.1, z.2.2.1, z.2.2.2.1, z.2.2.2.2.1, v, z.2.2.2.2.2.2.1, z.2.2.2.2.2.2.2.1, z.2.2.2.2.2.2.2.2.1, z.2.2.2.2.2.2.2.2.2.1, z.2.2.2.2.2.2.2.2.2.2.1, z.2.2.2.2.2.2.2.2.2.2.2.1, z.2.2.2.2.2.2.2.2.2.2.2.2)
def uM_fault (z : MdS) (v : Int32) : MdS := (z.1, z.2.1, z.2.2.1, z.2.2.2.1, z.2.2.2.2.1, z.2.2.2.2.2.1, v, z.2.2.2.2.2.2.2.1, z.2.2.2.2.2.2.2.2.1, z.2.2.2.2.2.2.2.2.2.1, z.2.2.2.2.2.2.2.2.2.2.1, z.2.2.2.2.2.2.2.2.2.2.2.1, z.2.2.2.2.2.2.2.2.2.2.2.2)
def uM_top (z : MdS) (v : Int64) : MdS := (z.1, z.2.1, z.2.2.1, z.2.2.2.1, z.2.2.2.2.1, z.2.2.2.2.2.1, z.2.2.2.2.2.2.1, v, z.2.2.2.2.2.2.2.2.1, z.2.2.2.2.2.2.2.2.2.1, z.2.2.2.2.2.2.2.2.2.2.1, z.2.2.2.2.2.2.2.2.2.2.2.1, z.2.2.2.2.2.2.2.2.2.2.2.2)
def uM_bottom (z : MdS) (v : Int64) : MdS := (z.1, z.2.1, z.2.2.1, z.2.2.2.1, z.2.2.2.2.1, z.2.2.2.2.2.1, z.2.2.2.2.2.2.1, z.2.2.2.2.2.2.2.1, v, z.2.2.2.2.2.2.2.2.2.1, z.2.2.2.2.2.2.2.2.2.2.1, z.2.2.2.2.2.2.2.2.2.2.2.1, z.2.2.2.2.2.2.2.2.2.2.2.2)
def uM_line (z : MdS) (v : (Nat → Int32)) : MdS := (z.1, z.2.1, z.2.2.1, z.2.2.2.1, z.2.2.2.2.1, z.2.2.2.2.2.1, z.2.2.2.2.2.2.1, z.2.2.2.2.2.2.2.1, z.2.2.2.2.2.2.2.2.1, v, z.2.2.2.2.2.2.2.2.2.2.1, z.2.2.2.2.2.2.2.2.2.2.2.1, z.2.2.2.2.2.2.2.2.2.2.2.2)
def uM_out (z : MdS) (v : (Nat → Int32)) : MdS := (z.1, z.2.1, z.2.2.1, z.2.2.2.1, z.2.2.2.2.1, z.2.2.2.2.2.1, z.2.2.2.2.2.2.1, z.2.2.2.2.2.2.2.1, z.2.2.2.2.2.2.2.2.1, z.2.2.2.2.2.2.2.2.2.1, v, z.2.2.2.2.2.2.2.2.2.2.2.1, z.2.2.2.2.2.2.2.2.2.2.2.2)
def uM_up (z : MdS) (v : (Nat → Int64)) : MdS := (z.1, z.2.1, z.2.2.1, z.2.2.2.1, z.2.2.2.2.1, z.2.2.2.2.2.1, z.2.2.2.2.2.2.1, z.2.2.2.2.2.2.2.1, z.2.2.2.2.2.2.2.2.1, z.2.2.2.2.2.2.2.2.2.1, z.2.2.2.2.2.2.2.2.2.2.1, v, z.2.2.2.2.2.2.2.2.2.2.2.2)
def uM_down (z : MdS) (v : (Nat → Int64)) : MdS := (z.1, z.2.1, z.2.2.1, z.2.2.2.1, z.2.2.2.2.1, z.2.2.2.2.2.1, z.2.2.2.2.2.2.1, z.2.2.2.2.2.2.2.1, z.2.2.2.2.2.2.2.2.1, z.2.2.2.2.2.2.2.2.2.1, z.2.2.2.2.2.2.2.2.2.2.1, z.2.2.2.2.2.2.2.2.2.2.2.1, v)
theorem gM_refusal_refusal (z : MdS) (v : Int32) : gM_refusal (uM_refusal z v) = v := rfl
theorem gM_refusal_lineSize (z : MdS) (v : Int32) : gM_refusal (uM_lineSize z v) = gM_refusal z := rfl
theorem gM_refusal_outSize (z : MdS) (v : Int32) : gM_refusal (uM_outSize z v) = gM_refusal z := rfl
theorem gM_refusal_wrongPlace (z : MdS) (v : Int32) : gM_refusal (uM_wrongPlace z v) = gM_refusal z := rfl
theorem gM_refusal_isFull (z : MdS) (v : Int32) : gM_refusal (uM_isFull z v) = gM_refusal z := rfl
theorem gM_refusal_at (z : MdS) (v : Int32) : gM_refusal (uM_at z v) = gM_refusal z := rfl
theorem gM_refusal_fault (z : MdS) (v : Int32) : gM_refusal (uM_fault z v) = gM_refusal z := rfl
theorem gM_refusal_top (z : MdS) (v : Int64) : gM_refusal (uM_top z v) = gM_refusal z := rfl
theorem gM_refusal_bottom (z : MdS) (v : Int64) : gM_refusal (uM_bottom z v) = gM_refusal z := rfl
theorem gM_refusal_line (z : MdS) (v : (Nat → Int32)) : gM_refusal (uM_line z v) = gM_refusal z := rfl
theorem gM_refusal_out (z : MdS) (v : (Nat → Int32)) : gM_refusal (uM_out z v) = gM_refusal z := rfl
theorem gM_refusal_up (z : MdS) (v : (Nat → Int64)) : gM_refusal (uM_up z v) = gM_refusal z := rfl
theorem gM_refusal_down (z : MdS) (v : (Nat → Int64)) : gM_refusal (uM_down z v) = gM_refusal z := rfl
theorem gM_lineSize_refusal (z : MdS) (v : Int32) : gM_lineSize (uM_refusal z v) = gM_lineSize z := rfl
theorem gM_lineSize_lineSize (z : MdS) (v : Int32) : gM_lineSize (uM_lineSize z v) = v := rfl
theorem gM_lineSize_outSize (z : MdS) (v : Int32) : gM_lineSize (uM_outSize z v) = gM_lineSize z := rfl
theorem gM_lineSize_wrongPlace (z : MdS) (v : Int32) : gM_lineSize (uM_wrongPlace z v) = gM_lineSize z := rfl
theorem gM_lineSize_isFull (z : MdS) (v : Int32) : gM_lineSize (uM_isFull z v) = gM_lineSize z := rfl
theorem gM_lineSize_at (z : MdS) (v : Int32) : gM_lineSize (uM_at z v) = gM_lineSize z := rfl
theorem gM_lineSize_fault (z : MdS) (v : Int32) : gM_lineSize (uM_fault z v) = gM_lineSize z := rfl
theorem gM_lineSize_top (z : MdS) (v : Int64) : gM_lineSize (uM_top z v) = gM_lineSize z := rfl
theorem gM_lineSize_bottom (z : MdS) (v : Int64) : gM_lineSize (uM_bottom z v) = gM_lineSize z := rfl
theorem gM_lineSize_line (z : MdS) (v : (Nat → Int32)) : gM_lineSize (uM_line z v) = gM_lineSize z := rfl
theorem gM_lineSize_out (z : MdS) (v : (Nat → Int32)) : gM_lineSize (uM_out z v) = gM_lineSize z := rfl
theorem gM_lineSize_up (z : MdS) (v : (Nat → Int64)) : gM_lineSize (uM_up z v) = gM_lineSize z := rfl
theorem gM_lineSize_down (z : MdS) (v : (Nat → Int64)) : gM_lineSize (uM_down z v) = gM_lineSize z := rfl
theorem gM_outSize_refusal (z : MdS) (v : Int32) : gM_outSize (uM_refusal z v) = gM_outSize z := rfl
theorem gM_outSize_lineSize (z : MdS) (v : Int32) : gM_outSize (uM_lineSize z v) = gM_outSize z := rfl
theorem gM_outSize_outSize (z : MdS) (v : Int32) : gM_outSize (uM_outSize z v) = v := rfl
theorem gM_outSize_wrongPlace (z : MdS) (v : Int32) : gM_outSize (uM_wrongPlace z v) = gM_outSize z := rfl
theorem gM_outSize_isFull (z : MdS) (v : Int32) : gM_outSize (uM_isFull z v) = gM_outSize z := rfl
theorem gM_outSize_at (z : MdS) (v : Int32) : gM_outSize (uM_at z v) = gM_outSize z := rfl
theorem gM_outSize_fault (z : MdS) (v : Int32) : gM_outSize (uM_fault z v) = gM_outSize z := rfl
theorem gM_outSize_top (z : MdS) (v : Int64) : gM_outSize (uM_top z v) = gM_outSize z := rfl
theorem gM_outSize_bottom (z : MdS) (v : Int64) : gM_outSize (uM_bottom z v) = gM_outSize z := rfl
theorem gM_outSize_line (z : MdS) (v : (Nat → Int32)) : gM_outSize (uM_line z v) = gM_outSize z := rfl
theorem gM_outSize_out (z : MdS) (v : (Nat → Int32)) : gM_outSize (uM_out z v) = gM_outSize z := rfl
theorem gM_outSize_up (z : MdS) (v : (Nat → Int64)) : gM_outSize (uM_up z v) = gM_outSize z := rfl
theorem gM_outSize_down (z : MdS) (v : (Nat → Int64)) : gM_outSize (uM_down z v) = gM_outSize z := rfl
theorem gM_wrongPlace_refusal (z : MdS) (v : Int32) : gM_wrongPlace (uM_refusal z v) = gM_wrongPlace z := rfl
theorem gM_wrongPlace_lineSize (z : MdS) (v : Int32) : gM_wrongPlace (uM_lineSize z v) = gM_wrongPlace z := rfl
theorem gM_wrongPlace_outSize (z : MdS) (v : Int32) : gM_wrongPlace (uM_outSize z v) = gM_wrongPlace z := rfl
theorem gM_wrongPlace_wrongPlace (z : MdS) (v : Int32) : gM_wrongPlace (uM_wrongPlace z v) = v := rfl
theorem gM_wrongPlace_isFull (z : MdS) (v : Int32) : gM_wrongPlace (uM_isFull z v) = gM_wrongPlace z := rfl
theorem gM_wrongPlace_at (z : MdS) (v : Int32) : gM_wrongPlace (uM_at z v) = gM_wrongPlace z := rfl
theorem gM_wrongPlace_fault (z : MdS) (v : Int32) : gM_wrongPlace (uM_fault z v) = gM_wrongPlace z := rfl
theorem gM_wrongPlace_top (z : MdS) (v : Int64) : gM_wrongPlace (uM_top z v) = gM_wrongPlace z := rfl
theorem gM_wrongPlace_bottom (z : MdS) (v : Int64) : gM_wrongPlace (uM_bottom z v) = gM_wrongPlace z := rfl
theorem gM_wrongPlace_line (z : MdS) (v : (Nat → Int32)) : gM_wrongPlace (uM_line z v) = gM_wrongPlace z := rfl
theorem gM_wrongPlace_out (z : MdS) (v : (Nat → Int32)) : gM_wrongPlace (uM_out z v) = gM_wrongPlace z := rfl
theorem gM_wrongPlace_up (z : MdS) (v : (Nat → Int64)) : gM_wrongPlace (uM_up z v) = gM_wrongPlace z := rfl
theorem gM_wrongPlace_down (z : MdS) (v : (Nat → Int64)) : gM_wrongPlace (uM_down z v) = gM_wrongPlace z := rfl
theorem gM_isFull_refusal (z : MdS) (v : Int32) : gM_isFull (uM_refusal z v) = gM_isFull z := rfl
theorem gM_isFull_lineSize (z : MdS) (v : Int32) : gM_isFull (uM_lineSize z v) = gM_isFull z := rfl
theorem gM_isFull_outSize (z : MdS) (v : Int32) : gM_isFull (uM_outSize z v) = gM_isFull z := rfl
theorem gM_isFull_wrongPlace (z : MdS) (v : Int32) : gM_isFull (uM_wrongPlace z v) = gM_isFull z := rfl
theorem gM_isFull_isFull (z : MdS) (v : Int32) : gM_isFull (uM_isFull z v) = v := rfl
theorem gM_isFull_at (z : MdS) (v : Int32) : gM_isFull (uM_at z v) = gM_isFull z := rfl
theorem gM_isFull_fault (z : MdS) (v : Int32) : gM_isFull (uM_fault z v) = gM_isFull z := rfl
theorem gM_isFull_top (z : MdS) (v : Int64) : gM_isFull (uM_top z v) = gM_isFull z := rfl
theorem gM_isFull_bottom (z : MdS) (v : Int64) : gM_isFull (uM_bottom z v) = gM_isFull z := rfl
theorem gM_isFull_line (z : MdS) (v : (Nat → Int32)) : gM_isFull (uM_line z v) = gM_isFull z := rfl
theorem gM_isFull_out (z : MdS) (v : (Nat → Int32)) : gM_isFull (uM_out z v) = gM_isFull z := rfl
theorem gM_isFull_up (z : MdS) (v : (Nat → Int64)) : gM_isFull (uM_up z v) = gM_isFull z := rfl
theorem gM_isFull_down (z : MdS) (v : (Nat → Int64)) : gM_isFull (uM_down z v) = gM_isFull z := rfl
theorem gM_at_refusal (z : MdS) (v : Int32) : gM_at (uM_refusal z v) = gM_at z := rfl
theorem gM_at_lineSize (z : MdS) (v : Int32) : gM_at (uM_lineSize z v) = gM_at z := rfl
theorem gM_at_outSize (z : MdS) (v : Int32) : gM_at (uM_outSize z v) = gM_at z := rfl
theorem gM_at_wrongPlace (z : MdS) (v : Int32) : gM_at (uM_wrongPlace z v) = gM_at z := rfl
theorem gM_at_isFull (z : MdS) (v : Int32) : gM_at (uM_isFull z v) = gM_at z := rfl
theorem gM_at_at (z : MdS) (v : Int32) : gM_at (uM_at z v) = v := rfl
theorem gM_at_fault (z : MdS) (v : Int32) : gM_at (uM_fault z v) = gM_at z := rfl
theorem gM_at_top (z : MdS) (v : Int64) : gM_at (uM_top z v) = gM_at z := rfl
theorem gM_at_bottom (z : MdS) (v : Int64) : gM_at (uM_bottom z v) = gM_at z := rfl
theorem gM_at_line (z : MdS) (v : (Nat → Int32)) : gM_at (uM_line z v) = gM_at z := rfl
theorem gM_at_out (z : MdS) (v : (Nat → Int32)) : gM_at (uM_out z v) = gM_at z := rfl
theorem gM_at_up (z : MdS) (v : (Nat → Int64)) : gM_at (uM_up z v) = gM_at z := rfl
theorem gM_at_down (z : MdS) (v : (Nat → Int64)) : gM_at (uM_down z v) = gM_at z := rfl
theorem gM_fault_refusal (z : MdS) (v : Int32) : gM_fault (uM_refusal z v) = gM_fault z := rfl
theorem gM_fault_lineSize (z : MdS) (v : Int32) : gM_fault (uM_lineSize z v) = gM_fault z := rfl
theorem gM_fault_outSize (z : MdS) (v : Int32) : gM_fault (uM_outSize z v) = gM_fault z := rfl
theorem gM_fault_wrongPlace (z : MdS) (v : Int32) : gM_fault (uM_wrongPlace z v) = gM_fault z := rfl
theorem gM_fault_isFull (z : MdS) (v : Int32) : gM_fault (uM_isFull z v) = gM_fault z := rfl
theorem gM_fault_at (z : MdS) (v : Int32) : gM_fault (uM_at z v) = gM_fault z := rfl
theorem gM_fault_fault (z : MdS) (v : Int32) : gM_fault (uM_fault z v) = v := rfl
theorem gM_fault_top (z : MdS) (v : Int64) : gM_fault (uM_top z v) = gM_fault z := rfl
theorem gM_fault_bottom (z : MdS) (v : Int64) : gM_fault (uM_bottom z v) = gM_fault z := rfl
theorem gM_fault_line (z : MdS) (v : (Nat → Int32)) : gM_fault (uM_line z v) = gM_fault z := rfl
theorem gM_fault_out (z : MdS) (v : (Nat → Int32)) : gM_fault (uM_out z v) = gM_fault z := rfl
theorem gM_fault_up (z : MdS) (v : (Nat → Int64)) : gM_fault (uM_up z v) = gM_fault z := rfl
theorem gM_fault_down (z : MdS) (v : (Nat → Int64)) : gM_fault (uM_down z v) = gM_fault z := rfl
theorem gM_top_refusal (z : MdS) (v : Int32) : gM_top (uM_refusal z v) = gM_top z := rfl
theorem gM_top_lineSize (z : MdS) (v : Int32) : gM_top (uM_lineSize z v) = gM_top z := rfl
theorem gM_top_outSize (z : MdS) (v : Int32) : gM_top (uM_outSize z v) = gM_top z := rfl
theorem gM_top_wrongPlace (z : MdS) (v : Int32) : gM_top (uM_wrongPlace z v) = gM_top z := rfl
theorem gM_top_isFull (z : MdS) (v : Int32) : gM_top (uM_isFull z v) = gM_top z := rfl
theorem gM_top_at (z : MdS) (v : Int32) : gM_top (uM_at z v) = gM_top z := rfl
theorem gM_top_fault (z : MdS) (v : Int32) : gM_top (uM_fault z v) = gM_top z := rfl
theorem gM_top_top (z : MdS) (v : Int64) : gM_top (uM_top z v) = v := rfl
theorem gM_top_bottom (z : MdS) (v : Int64) : gM_top (uM_bottom z v) = gM_top z := rfl
theorem gM_top_line (z : MdS) (v : (Nat → Int32)) : gM_top (uM_line z v) = gM_top z := rfl
theorem gM_top_out (z : MdS) (v : (Nat → Int32)) : gM_top (uM_out z v) = gM_top z := rfl
theorem gM_top_up (z : MdS) (v : (Nat → Int64)) : gM_top (uM_up z v) = gM_top z := rfl
theorem gM_top_down (z : MdS) (v : (Nat → Int64)) : gM_top (uM_down z v) = gM_top z := rfl
theorem gM_bottom_refusal (z : MdS) (v : Int32) : gM_bottom (uM_refusal z v) = gM_bottom z := rfl
theorem gM_bottom_lineSize (z : MdS) (v : Int32) : gM_bottom (uM_lineSize z v) = gM_bottom z := rfl
theorem gM_bottom_outSize (z : MdS) (v : Int32) : gM_bottom (uM_outSize z v) = gM_bottom z := rfl
theorem gM_bottom_wrongPlace (z : MdS) (v : Int32) : gM_bottom (uM_wrongPlace z v) = gM_bottom z := rfl
theorem gM_bottom_isFull (z : MdS) (v : Int32) : gM_bottom (uM_isFull z v) = gM_bottom z := rfl
theorem gM_bottom_at (z : MdS) (v : Int32) : gM_bottom (uM_at z v) = gM_bottom z := rfl
theorem gM_bottom_fault (z : MdS) (v : Int32) : gM_bottom (uM_fault z v) = gM_bottom z := rfl
theorem gM_bottom_top (z : MdS) (v : Int64) : gM_bottom (uM_top z v) = gM_bottom z := rfl
theorem gM_bottom_bottom (z : MdS) (v : Int64) : gM_bottom (uM_bottom z v) = v := rfl
theorem gM_bottom_line (z : MdS) (v : (Nat → Int32)) : gM_bottom (uM_line z v) = gM_bottom z := rfl
theorem gM_bottom_out (z : MdS) (v : (Nat → Int32)) : gM_bottom (uM_out z v) = gM_bottom z := rfl
theorem gM_bottom_up (z : MdS) (v : (Nat → Int64)) : gM_bottom (uM_up z v) = gM_bottom z := rfl
theorem gM_bottom_down (z : MdS) (v : (Nat → Int64)) : gM_bottom (uM_down z v) = gM_bottom z := rfl
theorem gM_line_refusal (z : MdS) (v : Int32) : gM_line (uM_refusal z v) = gM_line z := rfl
theorem gM_line_lineSize (z : MdS) (v : Int32) : gM_line (uM_lineSize z v) = gM_line z := rfl
theorem gM_line_outSize (z : MdS) (v : Int32) : gM_line (uM_outSize z v) = gM_line z := rfl
theorem gM_line_wrongPlace (z : MdS) (v : Int32) : gM_line (uM_wrongPlace z v) = gM_line z := rfl
theorem gM_line_isFull (z : MdS) (v : Int32) : gM_line (uM_isFull z v) = gM_line z := rfl
theorem gM_line_at (z : MdS) (v : Int32) : gM_line (uM_at z v) = gM_line z := rfl
theorem gM_line_fault (z : MdS) (v : Int32) : gM_line (uM_fault z v) = gM_line z := rfl
theorem gM_line_top (z : MdS) (v : Int64) : gM_line (uM_top z v) = gM_line z := rfl
theorem gM_line_bottom (z : MdS) (v : Int64) : gM_line (uM_bottom z v) = gM_line z := rfl
theorem gM_line_line (z : MdS) (v : (Nat → Int32)) : gM_line (uM_line z v) = v := rfl
theorem gM_line_out (z : MdS) (v : (Nat → Int32)) : gM_line (uM_out z v) = gM_line z := rfl
theorem gM_line_up (z : MdS) (v : (Nat → Int64)) : gM_line (uM_up z v) = gM_line z := rfl
theorem gM_line_down (z : MdS) (v : (Nat → Int64)) : gM_line (uM_down z v) = gM_line z := rfl
theorem gM_out_refusal (z : MdS) (v : Int32) : gM_out (uM_refusal z v) = gM_out z := rfl
theorem gM_out_lineSize (z : MdS) (v : Int32) : gM_out (uM_lineSize z v) = gM_out z := rfl
theorem gM_out_outSize (z : MdS) (v : Int32) : gM_out (uM_outSize z v) = gM_out z := rfl
theorem gM_out_wrongPlace (z : MdS) (v : Int32) : gM_out (uM_wrongPlace z v) = gM_out z := rfl
theorem gM_out_isFull (z : MdS) (v : Int32) : gM_out (uM_isFull z v) = gM_out z := rfl
theorem gM_out_at (z : MdS) (v : Int32) : gM_out (uM_at z v) = gM_out z := rfl
theorem gM_out_fault (z : MdS) (v : Int32) : gM_out (uM_fault z v) = gM_out z := rfl
theorem gM_out_top (z : MdS) (v : Int64) : gM_out (uM_top z v) = gM_out z := rfl
theorem gM_out_bottom (z : MdS) (v : Int64) : gM_out (uM_bottom z v) = gM_out z := rfl
theorem gM_out_line (z : MdS) (v : (Nat → Int32)) : gM_out (uM_line z v) = gM_out z := rfl
theorem gM_out_out (z : MdS) (v : (Nat → Int32)) : gM_out (uM_out z v) = v := rfl
theorem gM_out_up (z : MdS) (v : (Nat → Int64)) : gM_out (uM_up z v) = gM_out z := rfl
theorem gM_out_down (z : MdS) (v : (Nat → Int64)) : gM_out (uM_down z v) = gM_out z := rfl
theorem gM_up_refusal (z : MdS) (v : Int32) : gM_up (uM_refusal z v) = gM_up z := rfl
theorem gM_up_lineSize (z : MdS) (v : Int32) : gM_up (uM_lineSize z v) = gM_up z := rfl
theorem gM_up_outSize (z : MdS) (v : Int32) : gM_up (uM_outSize z v) = gM_up z := rfl
theorem gM_up_wrongPlace (z : MdS) (v : Int32) : gM_up (uM_wrongPlace z v) = gM_up z := rfl
theorem gM_up_isFull (z : MdS) (v : Int32) : gM_up (uM_isFull z v) = gM_up z := rfl
theorem gM_up_at (z : MdS) (v : Int32) : gM_up (uM_at z v) = gM_up z := rfl
theorem gM_up_fault (z : MdS) (v : Int32) : gM_up (uM_fault z v) = gM_up z := rfl
theorem gM_up_top (z : MdS) (v : Int64) : gM_up (uM_top z v) = gM_up z := rfl
theorem gM_up_bottom (z : MdS) (v : Int64) : gM_up (uM_bottom z v) = gM_up z := rfl
theorem gM_up_line (z : MdS) (v : (Nat → Int32)) : gM_up (uM_line z v) = gM_up z := rfl
theorem gM_up_out (z : MdS) (v : (Nat → Int32)) : gM_up (uM_out z v) = gM_up z := rfl
theorem gM_up_up (z : MdS) (v : (Nat → Int64)) : gM_up (uM_up z v) = v := rfl
theorem gM_up_down (z : MdS) (v : (Nat → Int64)) : gM_up (uM_down z v) = gM_up z := rfl
theorem gM_down_refusal (z : MdS) (v : Int32) : gM_down (uM_refusal z v) = gM_down z := rfl
theorem gM_down_lineSize (z : MdS) (v : Int32) : gM_down (uM_lineSize z v) = gM_down z := rfl
theorem gM_down_outSize (z : MdS) (v : Int32) : gM_down (uM_outSize z v) = gM_down z := rfl
theorem gM_down_wrongPlace (z : MdS) (v : Int32) : gM_down (uM_wrongPlace z v) = gM_down z := rfl
theorem gM_down_isFull (z : MdS) (v : Int32) : gM_down (uM_isFull z v) = gM_down z := rfl
theorem gM_down_at (z : MdS) (v : Int32) : gM_down (uM_at z v) = gM_down z := rfl
theorem gM_down_fault (z : MdS) (v : Int32) : gM_down (uM_fault z v) = gM_down z := rfl
theorem gM_down_top (z : MdS) (v : Int64) : gM_down (uM_top z v) = gM_down z := rfl
theorem gM_down_bottom (z : MdS) (v : Int64) : gM_down (uM_bottom z v) = gM_down z := rfl
theorem gM_down_line (z : MdS) (v : (Nat → Int32)) : gM_down (uM_line z v) = gM_down z := rfl
theorem gM_down_out (z : MdS) (v : (Nat → Int32)) : gM_down (uM_out z v) = gM_down z := rfl
theorem gM_down_up (z : MdS) (v : (Nat → Int64)) : gM_down (uM_up z v) = gM_down z := rfl
theorem gM_down_down (z : MdS) (v : (Nat → Int64)) : gM_down (uM_down z v) = v := rfl
def wSum (cA : Nat → ClassId) (q : Nat → Nat) (R : Nat) (z : SumS) : va_W := [(q 0, .inr (2, [.int (nI R), .ref (q 1), .ref (q 2), .ref (q 3), .int (gS_size z), .int (gS_ov z)])), (q 1, .inl (cA 0, R, .inl (gS_keys z))), (q 2, .inl (cA 1, R, .inr (.inl (gS_tops z)))), (q 3, .inl (cA 1, R, .inr (.inl (gS_bots z))))]
def wLine (cA : Nat → ClassId) (q : Nat → Nat) (z : LineS) : va_W := [(q 0, .inr (0, [.ref (q 1), .int (gL_len z)])), (q 1, .inl (cA 2, 100, .inl (gL_ch z)))]
def wRd (q ql qs : Nat → Nat) (z : RdS) : va_W := [(q 0, .inr (1, [.ref (ql 0), .ref (qs 0), .int (gR_at z), .int (gR_fault z), .int (gR_place z), .long (gR_top z), .long (gR_bottom z), .int (gR_power z), .int (gR_kind z), .int (gR_arg z)]))]
def wWr (cA : Nat → ClassId) (q : Nat → Nat) (z : WrS) : va_W := [(q 0, .inr (3, [.ref (q 1), .int (gW_len z)])), (q 1, .inl (cA 2, 1200, .inl (gW_ch z)))]
def wMd (cA : Nat → ClassId) (q : Nat → Nat) (z : MdS) : va_W := [(q 0, .inr (5, [.int (gM_refusal z), .ref (q 1), .int (gM_lineSize z), .ref (q 2), .int (gM_outSize z), .int (gM_wrongPlace z), .ref (q 3), .ref (q 4), .int (gM_isFull z), .int (gM_at z), .int (gM_fault z), .long (gM_top z), .long (gM_bottom z)])), (q 1, .inl (cA 2, 100, .inl (gM_line z))), (q 2, .inl (cA 2, 1400, .inl (gM_out z))), (q 3, .inl (cA 1, nUD, .inr (.inl (gM_up z)))), (q 4, .inl (cA 1, nUD, .inr (.inl (gM_down z))))]
theorem sS_size_P {G : va_G} {cl : List vw_C} {cA : Nat → ClassId} {q : Nat → Nat} {R : Nat} {z : SumS} {v : Int32} {H : Heap} (h : va_P G cl ((wSum cA q R z).set 0 (q 0, .inr (2, ([.int (nI R), .ref (q 1), .ref (q 2), .ref (q 3), .int (gS_size z), .int (gS_ov z)] : List Value).set 4 (.int v)))) H) : va_P G cl (wSum cA q R (uS_size z v)) H := h
theorem sS_size_D {A : Nat → Prop} {cA : Nat → ClassId} {q : Nat → Nat} {R : Nat} {z : SumS} {v : Int32} (h : va_D A ((wSum cA q R z).set 0 (q 0, .inr (2, ([.int (nI R), .ref (q 1), .ref (q 2), .ref (q 3), .int (gS_size z), .int (gS_ov z)] : List Value).set 4 (.int v))))) : va_D A (wSum cA q R (uS_size z v)) := h
theorem sS_ov_P {G : va_G} {cl : List vw_C} {cA : Nat → ClassId} {q : Nat → Nat} {R : Nat} {z : SumS} {v : Int32} {H : Heap} (h : va_P G cl ((wSum cA q R z).set 0 (q 0, .inr (2, ([.int (nI R), .ref (q 1), .ref (q 2), .ref (q 3), .int (gS_size z), .int (gS_ov z)] : List Value).set 5 (.int v)))) H) : va_P G cl (wSum cA q R (uS_ov z v)) H := h
theorem sS_ov_D {A : Nat → Prop} {cA : Nat → ClassId} {q : Nat → Nat} {R : Nat} {z : SumS} {v : Int32} (h : va_D A ((wSum cA q R z).set 0 (q 0, .inr (2, ([.int (nI R), .ref (q 1), .ref (q 2), .ref (q 3), .int (gS_size z), .int (gS_ov z)] : List Value).set 5 (.int v))))) : va_D A (wSum cA q R (uS_ov z v)) := h
theorem sS_keys_P {G : va_G} {cl : List vw_C} {cA : Nat → ClassId} {q : Nat → Nat} {R : Nat} {z : SumS} {v : (Nat → Int32)} {H : Heap} (h : va_P G cl ((wSum cA q R z).set 1 (q 1, .inl (cA 0, R, .inl v))) H) : va_P G cl (wSum cA q R (uS_keys z v)) H := h
theorem sS_keys_D {A : Nat → Prop} {cA : Nat → ClassId} {q : Nat → Nat} {R : Nat} {z : SumS} {v : (Nat → Int32)} (h : va_D A ((wSum cA q R z).set 1 (q 1, .inl (cA 0, R, .inl v)))) : va_D A (wSum cA q R (uS_keys z v)) := h
theorem sS_tops_P {G : va_G} {cl : List vw_C} {cA : Nat → ClassId} {q : Nat → Nat} {R : Nat} {z : SumS} {v : (Nat → Int64)} {H : Heap} (h : va_P G cl ((wSum cA q R z).set 2 (q 2, .inl (cA 1, R, .inr (.inl v)))) H) : va_P G cl (wSum cA q R (uS_tops z v)) H := h
theorem sS_tops_D {A : Nat → Prop} {cA : Nat → ClassId} {q : Nat → Nat} {R : Nat} {z : SumS} {v : (Nat → Int64)} (h : va_D A ((wSum cA q R z).set 2 (q 2, .inl (cA 1, R, .inr (.inl v))))) : va_D A (wSum cA q R (uS_tops z v)) := h
theorem sS_bots_P {G : va_G} {cl : List vw_C} {cA : Nat → ClassId} {q : Nat → Nat} {R : Nat} {z : SumS} {v : (Nat → Int64)} {H : Heap} (h : va_P G cl ((wSum cA q R z).set 3 (q 3, .inl (cA 1, R, .inr (.inl v)))) H) : va_P G cl (wSum cA q R (uS_bots z v)) H := h
theorem sS_bots_D {A : Nat → Prop} {cA : Nat → ClassId} {q : Nat → Nat} {R : Nat} {z : SumS} {v : (Nat → Int64)} (h : va_D A ((wSum cA q R z).set 3 (q 3, .inl (cA 1, R, .inr (.inl v))))) : va_D A (wSum cA q R (uS_bots z v)) := h
theorem sL_len_P {G : va_G} {cl : List vw_C} {cA : Nat → ClassId} {q : Nat → Nat} {z : LineS} {v : Int32} {H : Heap} (h : va_P G cl ((wLine cA q z).set 0 (q 0, .inr (0, ([.ref (q 1), .int (gL_len z)] : List Value).set 1 (.int v)))) H) : va_P G cl (wLine cA q (uL_len z v)) H := h
theorem sL_len_D {A : Nat → Prop} {cA : Nat → ClassId} {q : Nat → Nat} {z : LineS} {v : Int32} (h : va_D A ((wLine cA q z).set 0 (q 0, .inr (0, ([.ref (q 1), .int (gL_len z)] : List Value).set 1 (.int v))))) : va_D A (wLine cA q (uL_len z v)) := h
theorem sL_ch_P {G : va_G} {cl : List vw_C} {cA : Nat → ClassId} {q : Nat → Nat} {z : LineS} {v : (Nat → Int32)} {H : Heap} (h : va_P G cl ((wLine cA q z).set 1 (q 1, .inl (cA 2, 100, .inl v))) H) : va_P G cl (wLine cA q (uL_ch z v)) H := h
theorem sL_ch_D {A : Nat → Prop} {cA : Nat → ClassId} {q : Nat → Nat} {z : LineS} {v : (Nat → Int32)} (h : va_D A ((wLine cA q z).set 1 (q 1, .inl (cA 2, 100, .inl v)))) : va_D A (wLine cA q (uL_ch z v)) := h
theorem sR_at_P {G : va_G} {cl : List vw_C} {q ql qs : Nat → Nat} {z : RdS} {v : Int32} {H : Heap} (h : va_P G cl ((wRd q ql qs z).set 0 (q 0, .inr (1, ([.ref (ql 0), .ref (qs 0), .int (gR_at z), .int (gR_fault z), .int (gR_place z), .long (gR_top z), .long (gR_bottom z), .int (gR_power z), .int (gR_kind z), .int (gR_arg z)] : List Value).set 2 (.int v)))) H) : va_P G cl (wRd q ql qs (uR_at z v)) H := h
theorem sR_at_D {A : Nat → Prop} {q ql qs : Nat → Nat} {z : RdS} {v : Int32} (h : va_D A ((wRd q ql qs z).set 0 (q 0, .inr (1, ([.ref (ql 0), .ref (qs 0), .int (gR_at z), .int (gR_fault z), .int (gR_place z), .long (gR_top z), .long (gR_bottom z), .int (gR_power z), .int (gR_kind z), .int (gR_arg z)] : List Value).set 2 (.int v))))) : va_D A (wRd q ql qs (uR_at z v)) := h
theorem sR_fault_P {G : va_G} {cl : List vw_C} {q ql qs : Nat → Nat} {z : RdS} {v : Int32} {H : Heap} (h : va_P G cl ((wRd q ql qs z).set 0 (q 0, .inr (1, ([.ref (ql 0), .ref (qs 0), .int (gR_at z), .int (gR_fault z), .int (gR_place z), .long (gR_top z), .long (gR_bottom z), .int (gR_power z), .int (gR_kind z), .int (gR_arg z)] : List Value).set 3 (.int v)))) H) : va_P G cl (wRd q ql qs (uR_fault z v)) H := h
theorem sR_fault_D {A : Nat → Prop} {q ql qs : Nat → Nat} {z : RdS} {v : Int32} (h : va_D A ((wRd q ql qs z).set 0 (q 0, .inr (1, ([.ref (ql 0), .ref (qs 0), .int (gR_at z), .int (gR_fault z), .int (gR_place z), .long (gR_top z), .long (gR_bottom z), .int (gR_power z), .int (gR_kind z), .int (gR_arg z)] : List Value).set 3 (.int v))))) : va_D A (wRd q ql qs (uR_fault z v)) := h
theorem sR_place_P {G : va_G} {cl : List vw_C} {q ql qs : Nat → Nat} {z : RdS} {v : Int32} {H : Heap} (h : va_P G cl ((wRd q ql qs z).set 0 (q 0, .inr (1, ([.ref (ql 0), .ref (qs 0), .int (gR_at z), .int (gR_fault z), .int (gR_place z), .long (gR_top z), .long (gR_bottom z), .int (gR_power z), .int (gR_kind z), .int (gR_arg z)] : List Value).set 4 (.int v)))) H) : va_P G cl (wRd q ql qs (uR_place z v)) H := h
theorem sR_place_D {A : Nat → Prop} {q ql qs : Nat → Nat} {z : RdS} {v : Int32} (h : va_D A ((wRd q ql qs z).set 0 (q 0, .inr (1, ([.ref (ql 0), .ref (qs 0), .int (gR_at z), .int (gR_fault z), .int (gR_place z), .long (gR_top z), .long (gR_bottom z), .int (gR_power z), .int (gR_kind z), .int (gR_arg z)] : List Value).set 4 (.int v))))) : va_D A (wRd q ql qs (uR_place z v)) := h
theorem sR_top_P {G : va_G} {cl : List vw_C} {q ql qs : Nat → Nat} {z : RdS} {v : Int64} {H : Heap} (h : va_P G cl ((wRd q ql qs z).set 0 (q 0, .inr (1, ([.ref (ql 0), .ref (qs 0), .int (gR_at z), .int (gR_fault z), .int (gR_place z), .long (gR_top z), .long (gR_bottom z), .int (gR_power z), .int (gR_kind z), .int (gR_arg z)] : List Value).set 5 (.long v)))) H) : va_P G cl (wRd q ql qs (uR_top z v)) H := h
theorem sR_top_D {A : Nat → Prop} {q ql qs : Nat → Nat} {z : RdS} {v : Int64} (h : va_D A ((wRd q ql qs z).set 0 (q 0, .inr (1, ([.ref (ql 0), .ref (qs 0), .int (gR_at z), .int (gR_fault z), .int (gR_place z), .long (gR_top z), .long (gR_bottom z), .int (gR_power z), .int (gR_kind z), .int (gR_arg z)] : List Value).set 5 (.long v))))) : va_D A (wRd q ql qs (uR_top z v)) := h
theorem sR_bottom_P {G : va_G} {cl : List vw_C} {q ql qs : Nat → Nat} {z : RdS} {v : Int64} {H : Heap} (h : va_P G cl ((wRd q ql qs z).set 0 (q 0, .inr (1, ([.ref (ql 0), .ref (qs 0), .int (gR_at z), .int (gR_fault z), .int (gR_place z), .long (gR_top z), .long (gR_bottom z), .int (gR_power z), .int (gR_kind z), .int (gR_arg z)] : List Value).set 6 (.long v)))) H) : va_P G cl (wRd q ql qs (uR_bottom z v)) H := h
theorem sR_bottom_D {A : Nat → Prop} {q ql qs : Nat → Nat} {z : RdS} {v : Int64} (h : va_D A ((wRd q ql qs z).set 0 (q 0, .inr (1, ([.ref (ql 0), .ref (qs 0), .int (gR_at z), .int (gR_fault z), .int (gR_place z), .long (gR_top z), .long (gR_bottom z), .int (gR_power z), .int (gR_kind z), .int (gR_arg z)] : List Value).set 6 (.long v))))) : va_D A (wRd q ql qs (uR_bottom z v)) := h
theorem sR_power_P {G : va_G} {cl : List vw_C} {q ql qs : Nat → Nat} {z : RdS} {v : Int32} {H : Heap} (h : va_P G cl ((wRd q ql qs z).set 0 (q 0, .inr (1, ([.ref (ql 0), .ref (qs 0), .int (gR_at z), .int (gR_fault z), .int (gR_place z), .long (gR_top z), .long (gR_bottom z), .int (gR_power z), .int (gR_kind z), .int (gR_arg z)] : List Value).set 7 (.int v)))) H) : va_P G cl (wRd q ql qs (uR_power z v)) H := h
theorem sR_power_D {A : Nat → Prop} {q ql qs : Nat → Nat} {z : RdS} {v : Int32} (h : va_D A ((wRd q ql qs z).set 0 (q 0, .inr (1, ([.ref (ql 0), .ref (qs 0), .int (gR_at z), .int (gR_fault z), .int (gR_place z), .long (gR_top z), .long (gR_bottom z), .int (gR_power z), .int (gR_kind z), .int (gR_arg z)] : List Value).set 7 (.int v))))) : va_D A (wRd q ql qs (uR_power z v)) := h
theorem sR_kind_P {G : va_G} {cl : List vw_C} {q ql qs : Nat → Nat} {z : RdS} {v : Int32} {H : Heap} (h : va_P G cl ((wRd q ql qs z).set 0 (q 0, .inr (1, ([.ref (ql 0), .ref (qs 0), .int (gR_at z), .int (gR_fault z), .int (gR_place z), .long (gR_top z), .long (gR_bottom z), .int (gR_power z), .int (gR_kind z), .int (gR_arg z)] : List Value).set 8 (.int v)))) H) : va_P G cl (wRd q ql qs (uR_kind z v)) H := h
theorem sR_kind_D {A : Nat → Prop} {q ql qs : Nat → Nat} {z : RdS} {v : Int32} (h : va_D A ((wRd q ql qs z).set 0 (q 0, .inr (1, ([.ref (ql 0), .ref (qs 0), .int (gR_at z), .int (gR_fault z), .int (gR_place z), .long (gR_top z), .long (gR_bottom z), .int (gR_power z), .int (gR_kind z), .int (gR_arg z)] : List Value).set 8 (.int v))))) : va_D A (wRd q ql qs (uR_kind z v)) := h
theorem sR_arg_P {G : va_G} {cl : List vw_C} {q ql qs : Nat → Nat} {z : RdS} {v : Int32} {H : Heap} (h : va_P G cl ((wRd q ql qs z).set 0 (q 0, .inr (1, ([.ref (ql 0), .ref (qs 0), .int (gR_at z), .int (gR_fault z), .int (gR_place z), .long (gR_top z), .long (gR_bottom z), .int (gR_power z), .int (gR_kind z), .int (gR_arg z)] : List Value).set 9 (.int v)))) H) : va_P G cl (wRd q ql qs (uR_arg z v)) H := h
theorem sR_arg_D {A : Nat → Prop} {q ql qs : Nat → Nat} {z : RdS} {v : Int32} (h : va_D A ((wRd q ql qs z).set 0 (q 0, .inr (1, ([.ref (ql 0), .ref (qs 0), .int (gR_at z), .int (gR_fault z), .int (gR_place z), .long (gR_top z), .long (gR_bottom z), .int (gR_power z), .int (gR_kind z), .int (gR_arg z)] : List Value).set 9 (.int v))))) : va_D A (wRd q ql qs (uR_arg z v)) := h
theorem sW_len_P {G : va_G} {cl : List vw_C} {cA : Nat → ClassId} {q : Nat → Nat} {z : WrS} {v : Int32} {H : Heap} (h : va_P G cl ((wWr cA q z).set 0 (q 0, .inr (3, ([.ref (q 1), .int (gW_len z)] : List Value).set 1 (.int v)))) H) : va_P G cl (wWr cA q (uW_len z v)) H := h
theorem sW_len_D {A : Nat → Prop} {cA : Nat → ClassId} {q : Nat → Nat} {z : WrS} {v : Int32} (h : va_D A ((wWr cA q z).set 0 (q 0, .inr (3, ([.ref (q 1), .int (gW_len z)] : List Value).set 1 (.int v))))) : va_D A (wWr cA q (uW_len z v)) := h
theorem sW_ch_P {G : va_G} {cl : List vw_C} {cA : Nat → ClassId} {q : Nat → Nat} {z : WrS} {v : (Nat → Int32)} {H : Heap} (h : va_P G cl ((wWr cA q z).set 1 (q 1, .inl (cA 2, 1200, .inl v))) H) : va_P G cl (wWr cA q (uW_ch z v)) H := h
theorem sW_ch_D {A : Nat → Prop} {cA : Nat → ClassId} {q : Nat → Nat} {z : WrS} {v : (Nat → Int32)} (h : va_D A ((wWr cA q z).set 1 (q 1, .inl (cA 2, 1200, .inl v)))) : va_D A (wWr cA q (uW_ch z v)) := h
theorem sM_refusal_P {G : va_G} {cl : List vw_C} {cA : Nat → ClassId} {q : Nat → Nat} {z : MdS} {v : Int32} {H : Heap} (h : va_P G cl ((wMd cA q z).set 0 (q 0, .inr (5, ([.int (gM_refusal z), .ref (q 1), .int (gM_lineSize z), .ref (q 2), .int (gM_outSize z), .int (gM_wrongPlace z), .ref (q 3), .ref (q 4), .int (gM_isFull z), .int (gM_at z), .int (gM_fault z), .long (gM_top z), .long (gM_bottom z)] : List Value).set 0 (.int v)))) H) : va_P G cl (wMd cA q (uM_refusal z v)) H := h
theorem sM_refusal_D {A : Nat → Prop} {cA : Nat → ClassId} {q : Nat → Nat} {z : MdS} {v : Int32} (h : va_D A ((wMd cA q z).set 0 (q 0, .inr (5, ([.int (gM_refusal z), .ref (q 1), .int (gM_lineSize z), .ref (q 2), .int (gM_outSize z), .int (gM_wrongPlace z), .ref (q 3), .ref (q 4), .int (gM_isFull z), .int (gM_at z), .int (gM_fault z), .long (gM_top z), .long (gM_bottom z)] : List Value).set 0 (.int v))))) : va_D A (wMd cA q (uM_refusal z v)) := h
theorem sM_lineSize_P {G : va_G} {cl : List vw_C} {cA : Nat → ClassId} {q : Nat → Nat} {z : MdS} {v : Int32} {H : Heap} (h : va_P G cl ((wMd cA q z).set 0 (q 0, .inr (5, ([.int (gM_refusal z), .ref (q 1), .int (gM_lineSize z), .ref (q 2), .int (gM_outSize z), .int (gM_wrongPlace z), .ref (q 3), .ref (q 4), .int (gM_isFull z), .int (gM_at z), .int (gM_fault z), .long (gM_top z), .long (gM_bottom z)] : List Value).set 2 (.int v)))) H) : va_P G cl (wMd cA q (uM_lineSize z v)) H := h
theorem sM_lineSize_D {A : Nat → Prop} {cA : Nat → ClassId} {q : Nat → Nat} {z : MdS} {v : Int32} (h : va_D A ((wMd cA q z).set 0 (q 0, .inr (5, ([.int (gM_refusal z), .ref (q 1), .int (gM_lineSize z), .ref (q 2), .int (gM_outSize z), .int (gM_wrongPlace z), .ref (q 3), .ref (q 4), .int (gM_isFull z), .int (gM_at z), .int (gM_fault z), .long (gM_top z), .long (gM_bottom z)] : List Value).set 2 (.int v))))) : va_D A (wMd cA q (uM_lineSize z v)) := h
theorem sM_outSize_P {G : va_G} {cl : List vw_C} {cA : Nat → ClassId} {q : Nat → Nat} {z : MdS} {v : Int32} {H : Heap} (h : va_P G cl ((wMd cA q z).set 0 (q 0, .inr (5, ([.int (gM_refusal z), .ref (q 1), .int (gM_lineSize z), .ref (q 2), .int (gM_outSize z), .int (gM_wrongPlace z), .ref (q 3), .ref (q 4), .int (gM_isFull z), .int (gM_at z), .int (gM_fault z), .long (gM_top z), .long (gM_bottom z)] : List Value).set 4 (.int v)))) H) : va_P G cl (wMd cA q (uM_outSize z v)) H := h
theorem sM_outSize_D {A : Nat → Prop} {cA : Nat → ClassId} {q : Nat → Nat} {z : MdS} {v : Int32} (h : va_D A ((wMd cA q z).set 0 (q 0, .inr (5, ([.int (gM_refusal z), .ref (q 1), .int (gM_lineSize z), .ref (q 2), .int (gM_outSize z), .int (gM_wrongPlace z), .ref (q 3), .ref (q 4), .int (gM_isFull z), .int (gM_at z), .int (gM_fault z), .long (gM_top z), .long (gM_bottom z)] : List Value).set 4 (.int v))))) : va_D A (wMd cA q (uM_outSize z v)) := h
theorem sM_wrongPlace_P {G : va_G} {cl : List vw_C} {cA : Nat → ClassId} {q : Nat → Nat} {z : MdS} {v : Int32} {H : Heap} (h : va_P G cl ((wMd cA q z).set 0 (q 0, .inr (5, ([.int (gM_refusal z), .ref (q 1), .int (gM_lineSize z), .ref (q 2), .int (gM_outSize z), .int (gM_wrongPlace z), .ref (q 3), .ref (q 4), .int (gM_isFull z), .int (gM_at z), .int (gM_fault z), .long (gM_top z), .long (gM_bottom z)] : List Value).set 5 (.int v)))) H) : va_P G cl (wMd cA q (uM_wrongPlace z v)) H := h
theorem sM_wrongPlace_D {A : Nat → Prop} {cA : Nat → ClassId} {q : Nat → Nat} {z : MdS} {v : Int32} (h : va_D A ((wMd cA q z).set 0 (q 0, .inr (5, ([.int (gM_refusal z), .ref (q 1), .int (gM_lineSize z), .ref (q 2), .int (gM_outSize z), .int (gM_wrongPlace z), .ref (q 3), .ref (q 4), .int (gM_isFull z), .int (gM_at z), .int (gM_fault z), .long (gM_top z), .long (gM_bottom z)] : List Value).set 5 (.int v))))) : va_D A (wMd cA q (uM_wrongPlace z v)) := h
theorem sM_isFull_P {G : va_G} {cl : List vw_C} {cA : Nat → ClassId} {q : Nat → Nat} {z : MdS} {v : Int32} {H : Heap} (h : va_P G cl ((wMd cA q z).set 0 (q 0, .inr (5, ([.int (gM_refusal z), .ref (q 1), .int (gM_lineSize z), .ref (q 2), .int (gM_outSize z), .int (gM_wrongPlace z), .ref (q 3), .ref (q 4), .int (gM_isFull z), .int (gM_at z), .int (gM_fault z), .long (gM_top z), .long (gM_bottom z)] : List Value).set 8 (.int v)))) H) : va_P G cl (wMd cA q (uM_isFull z v)) H := h
theorem sM_isFull_D {A : Nat → Prop} {cA : Nat → ClassId} {q : Nat → Nat} {z : MdS} {v : Int32} (h : va_D A ((wMd cA q z).set 0 (q 0, .inr (5, ([.int (gM_refusal z), .ref (q 1), .int (gM_lineSize z), .ref (q 2), .int (gM_outSize z), .int (gM_wrongPlace z), .ref (q 3), .ref (q 4), .int (gM_isFull z), .int (gM_at z), .int (gM_fault z), .long (gM_top z), .long (gM_bottom z)] : List Value).set 8 (.int v))))) : va_D A (wMd cA q (uM_isFull z v)) := h
theorem sM_at_P {G : va_G} {cl : List vw_C} {cA : Nat → ClassId} {q : Nat → Nat} {z : MdS} {v : Int32} {H : Heap} (h : va_P G cl ((wMd cA q z).set 0 (q 0, .inr (5, ([.int (gM_refusal z), .ref (q 1), .int (gM_lineSize z), .ref (q 2), .int (gM_outSize z), .int (gM_wrongPlace z), .ref (q 3), .ref (q 4), .int (gM_isFull z), .int (gM_at z), .int (gM_fault z), .long (gM_top z), .long (gM_bottom z)] : List Value).set 9 (.int v)))) H) : va_P G cl (wMd cA q (uM_at z v)) H := h
theorem sM_at_D {A : Nat → Prop} {cA : Nat → ClassId} {q : Nat → Nat} {z : MdS} {v : Int32} (h : va_D A ((wMd cA q z).set 0 (q 0, .inr (5, ([.int (gM_refusal z), .ref (q 1), .int (gM_lineSize z), .ref (q 2), .int (gM_outSize z), .int (gM_wrongPlace z), .ref (q 3), .ref (q 4), .int (gM_isFull z), .int (gM_at z), .int (gM_fault z), .long (gM_top z), .long (gM_bottom z)] : List Value).set 9 (.int v))))) : va_D A (wMd cA q (uM_at z v)) := h
theorem sM_fault_P {G : va_G} {cl : List vw_C} {cA : Nat → ClassId} {q : Nat → Nat} {z : MdS} {v : Int32} {H : Heap} (h : va_P G cl ((wMd cA q z).set 0 (q 0, .inr (5, ([.int (gM_refusal z), .ref (q 1), .int (gM_lineSize z), .ref (q 2), .int (gM_outSize z), .int (gM_wrongPlace z), .ref (q 3), .ref (q 4), .int (gM_isFull z), .int (gM_at z), .int (gM_fault z), .long (gM_top z), .long (gM_bottom z)] : List Value).set 10 (.int v)))) H) : va_P G cl (wMd cA q (uM_fault z v)) H := h
theorem sM_fault_D {A : Nat → Prop} {cA : Nat → ClassId} {q : Nat → Nat} {z : MdS} {v : Int32} (h : va_D A ((wMd cA q z).set 0 (q 0, .inr (5, ([.int (gM_refusal z), .ref (q 1), .int (gM_lineSize z), .ref (q 2), .int (gM_outSize z), .int (gM_wrongPlace z), .ref (q 3), .ref (q 4), .int (gM_isFull z), .int (gM_at z), .int (gM_fault z), .long (gM_top z), .long (gM_bottom z)] : List Value).set 10 (.int v))))) : va_D A (wMd cA q (uM_fault z v)) := h
theorem sM_top_P {G : va_G} {cl : List vw_C} {cA : Nat → ClassId} {q : Nat → Nat} {z : MdS} {v : Int64} {H : Heap} (h : va_P G cl ((wMd cA q z).set 0 (q 0, .inr (5, ([.int (gM_refusal z), .ref (q 1), .int (gM_lineSize z), .ref (q 2), .int (gM_outSize z), .int (gM_wrongPlace z), .ref (q 3), .ref (q 4), .int (gM_isFull z), .int (gM_at z), .int (gM_fault z), .long (gM_top z), .long (gM_bottom z)] : List Value).set 11 (.long v)))) H) : va_P G cl (wMd cA q (uM_top z v)) H := h
theorem sM_top_D {A : Nat → Prop} {cA : Nat → ClassId} {q : Nat → Nat} {z : MdS} {v : Int64} (h : va_D A ((wMd cA q z).set 0 (q 0, .inr (5, ([.int (gM_refusal z), .ref (q 1), .int (gM_lineSize z), .ref (q 2), .int (gM_outSize z), .int (gM_wrongPlace z), .ref (q 3), .ref (q 4), .int (gM_isFull z), .int (gM_at z), .int (gM_fault z), .long (gM_top z), .long (gM_bottom z)] : List Value).set 11 (.long v))))) : va_D A (wMd cA q (uM_top z v)) := h
theorem sM_bottom_P {G : va_G} {cl : List vw_C} {cA : Nat → ClassId} {q : Nat → Nat} {z : MdS} {v : Int64} {H : Heap} (h : va_P G cl ((wMd cA q z).set 0 (q 0, .inr (5, ([.int (gM_refusal z), .ref (q 1), .int (gM_lineSize z), .ref (q 2), .int (gM_outSize z), .int (gM_wrongPlace z), .ref (q 3), .ref (q 4), .int (gM_isFull z), .int (gM_at z), .int (gM_fault z), .long (gM_top z), .long (gM_bottom z)] : List Value).set 12 (.long v)))) H) : va_P G cl (wMd cA q (uM_bottom z v)) H := h
theorem sM_bottom_D {A : Nat → Prop} {cA : Nat → ClassId} {q : Nat → Nat} {z : MdS} {v : Int64} (h : va_D A ((wMd cA q z).set 0 (q 0, .inr (5, ([.int (gM_refusal z), .ref (q 1), .int (gM_lineSize z), .ref (q 2), .int (gM_outSize z), .int (gM_wrongPlace z), .ref (q 3), .ref (q 4), .int (gM_isFull z), .int (gM_at z), .int (gM_fault z), .long (gM_top z), .long (gM_bottom z)] : List Value).set 12 (.long v))))) : va_D A (wMd cA q (uM_bottom z v)) := h
theorem sM_line_P {G : va_G} {cl : List vw_C} {cA : Nat → ClassId} {q : Nat → Nat} {z : MdS} {v : (Nat → Int32)} {H : Heap} (h : va_P G cl ((wMd cA q z).set 1 (q 1, .inl (cA 2, 100, .inl v))) H) : va_P G cl (wMd cA q (uM_line z v)) H := h
theorem sM_line_D {A : Nat → Prop} {cA : Nat → ClassId} {q : Nat → Nat} {z : MdS} {v : (Nat → Int32)} (h : va_D A ((wMd cA q z).set 1 (q 1, .inl (cA 2, 100, .inl v)))) : va_D A (wMd cA q (uM_line z v)) := h
theorem sM_out_P {G : va_G} {cl : List vw_C} {cA : Nat → ClassId} {q : Nat → Nat} {z : MdS} {v : (Nat → Int32)} {H : Heap} (h : va_P G cl ((wMd cA q z).set 2 (q 2, .inl (cA 2, 1400, .inl v))) H) : va_P G cl (wMd cA q (uM_out z v)) H := h
theorem sM_out_D {A : Nat → Prop} {cA : Nat → ClassId} {q : Nat → Nat} {z : MdS} {v : (Nat → Int32)} (h : va_D A ((wMd cA q z).set 2 (q 2, .inl (cA 2, 1400, .inl v)))) : va_D A (wMd cA q (uM_out z v)) := h
theorem sM_up_P {G : va_G} {cl : List vw_C} {cA : Nat → ClassId} {q : Nat → Nat} {z : MdS} {v : (Nat → Int64)} {H : Heap} (h : va_P G cl ((wMd cA q z).set 3 (q 3, .inl (cA 1, nUD, .inr (.inl v)))) H) : va_P G cl (wMd cA q (uM_up z v)) H := h
theorem sM_up_D {A : Nat → Prop} {cA : Nat → ClassId} {q : Nat → Nat} {z : MdS} {v : (Nat → Int64)} (h : va_D A ((wMd cA q z).set 3 (q 3, .inl (cA 1, nUD, .inr (.inl v))))) : va_D A (wMd cA q (uM_up z v)) := h
theorem sM_down_P {G : va_G} {cl : List vw_C} {cA : Nat → ClassId} {q : Nat → Nat} {z : MdS} {v : (Nat → Int64)} {H : Heap} (h : va_P G cl ((wMd cA q z).set 4 (q 4, .inl (cA 1, nUD, .inr (.inl v)))) H) : va_P G cl (wMd cA q (uM_down z v)) H := h
theorem sM_down_D {A : Nat → Prop} {cA : Nat → ClassId} {q : Nat → Nat} {z : MdS} {v : (Nat → Int64)} (h : va_D A ((wMd cA q z).set 4 (q 4, .inl (cA 1, nUD, .inr (.inl v))))) : va_D A (wMd cA q (uM_down z v)) := h
