def R_TC : String := "TemplateCaller"
def R_Declaration : String := "TemplateCaller$Declaration"
def R_PathTemplate : String := "TemplateCaller$PathTemplate"
def R_RequestWriter : String := "TemplateCaller$RequestWriter"
def R_Reader : String := "TemplateCaller$Reader"
def R_Line : String := "TemplateCaller$Line"
def R_Head : String := "TemplateCaller$Head"
def R_Parameter : String := "TemplateCaller$Parameter"
def R_Item : String := "TemplateCaller$Item"
def R_ByteRow : String := "TemplateCaller$ByteRow"
def R_Mo : String := "TemplateCallerModel"
def R_Chars : String := "TemplateCaller$Chars"
def R_Encoder : String := "TemplateCaller$Encoder"
def R_String : String := "java/lang/String"
def R_StringLatin1 : String := "java/lang/StringLatin1"
def R_Math : String := "java/lang/Math"
def R_Preconditions : String := "jdk/internal/util/Preconditions"
def F_TC : u_T := fun k => match k with
  | 0 => ("TemplateCaller", "declaration", "LTemplateCaller$Declaration;", true)
  | 1 => ("TemplateCaller", "writer", "LTemplateCaller$RequestWriter;", true)
  | 2 => ("TemplateCaller", "reader", "LTemplateCaller$Reader;", true)
  | 3 => ("TemplateCaller", "made", "LTemplateCaller$ByteRow;", false)
  | _ => ("TemplateCaller", "spare", "LTemplateCaller$ByteRow;", false)
def t_TC : Nat → FieldType := fun k => match k with
  | 0 => .object "TemplateCaller$Declaration"
  | 1 => .object "TemplateCaller$RequestWriter"
  | 2 => .object "TemplateCaller$Reader"
  | 3 => .object "TemplateCaller$ByteRow"
  | _ => .object "TemplateCaller$ByteRow"
def F_Declaration : u_T := fun k => match k with
  | 0 => ("TemplateCaller$Declaration", "path", "LTemplateCaller$PathTemplate;", true)
  | 1 => ("TemplateCaller$Declaration", "parameters", "[LTemplateCaller$Parameter;", true)
  | 2 => ("TemplateCaller$Declaration", "count", "I", false)
  | _ => ("TemplateCaller$Declaration", "verb", "I", false)
def t_Declaration : Nat → FieldType := fun k => match k with
  | 0 => .object "TemplateCaller$PathTemplate"
  | 1 => .array (.object "TemplateCaller$Parameter")
  | 2 => .int
  | _ => .int
def F_PathTemplate : u_T := fun k => match k with
  | 0 => ("TemplateCaller$PathTemplate", "text", "[C", true)
  | _ => ("TemplateCaller$PathTemplate", "size", "I", false)
def t_PathTemplate : Nat → FieldType := fun k => match k with
  | 0 => .array .char
  | _ => .int
def F_RequestWriter : u_T := fun k => match k with
  | 0 => ("TemplateCaller$RequestWriter", "declaration", "LTemplateCaller$Declaration;", true)
  | 1 => ("TemplateCaller$RequestWriter", "path", "LTemplateCaller$PathTemplate;", true)
  | _ => ("TemplateCaller$RequestWriter", "counter", "LTemplateCaller$ByteRow;", true)
def t_RequestWriter : Nat → FieldType := fun k => match k with
  | 0 => .object "TemplateCaller$Declaration"
  | 1 => .object "TemplateCaller$PathTemplate"
  | _ => .object "TemplateCaller$ByteRow"
def F_Reader : u_T := fun k => match k with
  | 0 => ("TemplateCaller$Reader", "line", "LTemplateCaller$Line;", true)
  | 1 => ("TemplateCaller$Reader", "head", "LTemplateCaller$Head;", true)
  | 2 => ("TemplateCaller$Reader", "body", "LTemplateCaller$ByteRow;", true)
  | 3 => ("TemplateCaller$Reader", "state", "I", false)
  | 4 => ("TemplateCaller$Reader", "place", "I", false)
  | 5 => ("TemplateCaller$Reader", "endedStatus", "I", false)
  | _ => ("TemplateCaller$Reader", "bytesLeft", "I", false)
def t_Reader : Nat → FieldType := fun k => match k with
  | 0 => .object "TemplateCaller$Line"
  | 1 => .object "TemplateCaller$Head"
  | 2 => .object "TemplateCaller$ByteRow"
  | 3 => .int
  | 4 => .int
  | 5 => .int
  | _ => .int
def F_Line : u_T := fun k => match k with
  | 0 => ("TemplateCaller$Line", "text", "[C", true)
  | 1 => ("TemplateCaller$Line", "size", "I", false)
  | _ => ("TemplateCaller$Line", "returned", "Z", false)
def t_Line : Nat → FieldType := fun k => match k with
  | 0 => .array .char
  | 1 => .int
  | _ => .boolean
def F_Head : u_T := fun k => match k with
  | 0 => ("TemplateCaller$Head", "statusCode", "I", false)
  | 1 => ("TemplateCaller$Head", "fieldLines", "I", false)
  | 2 => ("TemplateCaller$Head", "trailingLines", "I", false)
  | 3 => ("TemplateCaller$Head", "contentLength", "I", false)
  | _ => ("TemplateCaller$Head", "chunked", "Z", false)
def t_Head : Nat → FieldType := fun k => match k with
  | 0 => .int
  | 1 => .int
  | 2 => .int
  | 3 => .int
  | _ => .boolean
def F_Parameter : u_T := fun k => match k with
  | 0 => ("TemplateCaller$Parameter", "items", "[LTemplateCaller$Item;", true)
  | 1 => ("TemplateCaller$Parameter", "count", "I", false)
  | 2 => ("TemplateCaller$Parameter", "kind", "I", false)
  | _ => ("TemplateCaller$Parameter", "letter", "C", false)
def t_Parameter : Nat → FieldType := fun k => match k with
  | 0 => .array (.object "TemplateCaller$Item")
  | 1 => .int
  | 2 => .int
  | _ => .char
def F_Item : u_T := fun k => match k with
  | 0 => ("TemplateCaller$Item", "chars", "[C", true)
  | _ => ("TemplateCaller$Item", "size", "I", false)
def t_Item : Nat → FieldType := fun k => match k with
  | 0 => .array .char
  | _ => .int
def F_ByteRow : u_T := fun k => match k with
  | 0 => ("TemplateCaller$ByteRow", "bytes", "[B", true)
  | _ => ("TemplateCaller$ByteRow", "size", "I", false)
def t_ByteRow : Nat → FieldType := fun k => match k with
  | 0 => .array .byte
  | _ => .int
def F_Mo : u_T := fun k => match k with
  | 0 => ("TemplateCallerModel", "verb", "I", false)
  | 1 => ("TemplateCallerModel", "size", "I", false)
  | 2 => ("TemplateCallerModel", "text", "[I", true)
  | 3 => ("TemplateCallerModel", "count", "I", false)
  | 4 => ("TemplateCallerModel", "kind", "[I", true)
  | 5 => ("TemplateCallerModel", "letter", "[I", true)
  | 6 => ("TemplateCallerModel", "items", "[I", true)
  | 7 => ("TemplateCallerModel", "length", "[I", true)
  | 8 => ("TemplateCallerModel", "chars", "[I", true)
  | 9 => ("TemplateCallerModel", "made", "I", false)
  | 10 => ("TemplateCallerModel", "request", "[I", true)
  | 11 => ("TemplateCallerModel", "outSize", "I", false)
  | 12 => ("TemplateCallerModel", "out", "[I", true)
  | 13 => ("TemplateCallerModel", "asked", "Z", false)
  | 14 => ("TemplateCallerModel", "aside", "Z", false)
  | 15 => ("TemplateCallerModel", "bodySize", "I", false)
  | 16 => ("TemplateCallerModel", "body", "[I", true)
  | 17 => ("TemplateCallerModel", "fed", "I", false)
  | 18 => ("TemplateCallerModel", "bytes", "[I", true)
  | 19 => ("TemplateCallerModel", "verbs", "[I", true)
  | 20 => ("TemplateCallerModel", "closed", "Z", false)
  | 21 => ("TemplateCallerModel", "at", "I", false)
  | 22 => ("TemplateCallerModel", "lineEnd", "I", false)
  | 23 => ("TemplateCallerModel", "phase", "I", false)
  | 24 => ("TemplateCallerModel", "code", "I", false)
  | 25 => ("TemplateCallerModel", "lines", "I", false)
  | 26 => ("TemplateCallerModel", "got", "I", false)
  | 27 => ("TemplateCallerModel", "matter", "[I", true)
  | 28 => ("TemplateCallerModel", "sized", "I", false)
  | 29 => ("TemplateCallerModel", "chunked", "Z", false)
  | _ => ("TemplateCallerModel", "open", "Z", false)
def t_Mo : Nat → FieldType := fun k => match k with
  | 0 => .int
  | 1 => .int
  | 2 => .array .int
  | 3 => .int
  | 4 => .array .int
  | 5 => .array .int
  | 6 => .array .int
  | 7 => .array .int
  | 8 => .array .int
  | 9 => .int
  | 10 => .array .int
  | 11 => .int
  | 12 => .array .int
  | 13 => .boolean
  | 14 => .boolean
  | 15 => .int
  | 16 => .array .int
  | 17 => .int
  | 18 => .array .int
  | 19 => .array .int
  | 20 => .boolean
  | 21 => .int
  | 22 => .int
  | 23 => .int
  | 24 => .int
  | 25 => .int
  | 26 => .int
  | 27 => .array .int
  | 28 => .int
  | 29 => .boolean
  | _ => .boolean
abbrev b_TC_init : ByteArray := prog_1_method_1_code
def y_TC_init : MethodName := ⟨R_TC, "<init>", "()V"⟩
abbrev b_TC_declare : ByteArray := prog_1_method_2_code
def y_TC_declare : MethodName := ⟨R_TC, "declare", "(I)Z"⟩
abbrev b_TC_template : ByteArray := prog_1_method_3_code
def y_TC_template : MethodName := ⟨R_TC, "template", "(C)Z"⟩
abbrev b_TC_parameter : ByteArray := prog_1_method_4_code
def y_TC_parameter : MethodName := ⟨R_TC, "parameter", "(IC)I"⟩
abbrev b_TC_check : ByteArray := prog_1_method_5_code
def y_TC_check : MethodName := ⟨R_TC, "check", "()I"⟩
abbrev b_TC_item : ByteArray := prog_1_method_6_code
def y_TC_item : MethodName := ⟨R_TC, "item", "(I)Z"⟩
abbrev b_TC_write : ByteArray := prog_1_method_7_code
def y_TC_write : MethodName := ⟨R_TC, "write", "(IC)Z"⟩
abbrev b_TC_empty : ByteArray := prog_1_method_8_code
def y_TC_empty : MethodName := ⟨R_TC, "empty", "(I)Z"⟩
abbrev b_TC_send : ByteArray := prog_1_method_9_code
def y_TC_send : MethodName := ⟨R_TC, "send", "()I"⟩
abbrev b_TC_sent : ByteArray := prog_1_method_10_code
def y_TC_sent : MethodName := ⟨R_TC, "sent", "(I)I"⟩
abbrev b_TC_feed : ByteArray := prog_1_method_11_code
def y_TC_feed : MethodName := ⟨R_TC, "feed", "(I)I"⟩
abbrev b_TC_close : ByteArray := prog_1_method_12_code
def y_TC_close : MethodName := ⟨R_TC, "close", "()I"⟩
abbrev b_TC_reset : ByteArray := prog_1_method_13_code
def y_TC_reset : MethodName := ⟨R_TC, "reset", "()V"⟩
abbrev b_TC_state : ByteArray := prog_1_method_14_code
def y_TC_state : MethodName := ⟨R_TC, "state", "()I"⟩
abbrev b_TC_status : ByteArray := prog_1_method_15_code
def y_TC_status : MethodName := ⟨R_TC, "status", "()I"⟩
abbrev b_TC_fields : ByteArray := prog_1_method_16_code
def y_TC_fields : MethodName := ⟨R_TC, "fields", "()I"⟩
abbrev b_TC_length : ByteArray := prog_1_method_17_code
def y_TC_length : MethodName := ⟨R_TC, "length", "()I"⟩
abbrev b_TC_content : ByteArray := prog_1_method_18_code
def y_TC_content : MethodName := ⟨R_TC, "content", "(I)I"⟩
abbrev b_Mo_init : ByteArray := prog_14_method_1_code
def y_Mo_init : MethodName := ⟨R_Mo, "<init>", "()V"⟩
abbrev b_Mo_declare : ByteArray := prog_14_method_2_code
def y_Mo_declare : MethodName := ⟨R_Mo, "declare", "(I)Z"⟩
abbrev b_Mo_template : ByteArray := prog_14_method_3_code
def y_Mo_template : MethodName := ⟨R_Mo, "template", "(C)Z"⟩
abbrev b_Mo_parameter : ByteArray := prog_14_method_4_code
def y_Mo_parameter : MethodName := ⟨R_Mo, "parameter", "(IC)I"⟩
abbrev b_Mo_isParameter : ByteArray := prog_14_method_5_code
def y_Mo_isParameter : MethodName := ⟨R_Mo, "isParameter", "(I)Z"⟩
abbrev b_Mo_item : ByteArray := prog_14_method_6_code
def y_Mo_item : MethodName := ⟨R_Mo, "item", "(I)Z"⟩
abbrev b_Mo_write : ByteArray := prog_14_method_7_code
def y_Mo_write : MethodName := ⟨R_Mo, "write", "(IC)Z"⟩
abbrev b_Mo_empty : ByteArray := prog_14_method_8_code
def y_Mo_empty : MethodName := ⟨R_Mo, "empty", "(I)Z"⟩
abbrev b_Mo_character : ByteArray := prog_14_method_9_code
def y_Mo_character : MethodName := ⟨R_Mo, "character", "(I)I"⟩
abbrev b_Mo_small : ByteArray := prog_14_method_10_code
def y_Mo_small : MethodName := ⟨R_Mo, "small", "(I)Z"⟩
abbrev b_Mo_digit : ByteArray := prog_14_method_11_code
def y_Mo_digit : MethodName := ⟨R_Mo, "digit", "(I)Z"⟩
abbrev b_Mo_letterOrDigit : ByteArray := prog_14_method_12_code
def y_Mo_letterOrDigit : MethodName := ⟨R_Mo, "letterOrDigit", "(I)Z"⟩
abbrev b_Mo_plain : ByteArray := prog_14_method_13_code
def y_Mo_plain : MethodName := ⟨R_Mo, "plain", "(I)Z"⟩
abbrev b_Mo_operator : ByteArray := prog_14_method_14_code
def y_Mo_operator : MethodName := ⟨R_Mo, "operator", "(I)Z"⟩
abbrev b_Mo_behind : ByteArray := prog_14_method_15_code
def y_Mo_behind : MethodName := ⟨R_Mo, "behind", "(I)I"⟩
abbrev b_Mo_wellFormed : ByteArray := prog_14_method_16_code
def y_Mo_wellFormed : MethodName := ⟨R_Mo, "wellFormed", "()Z"⟩
abbrev b_Mo_variableAt : ByteArray := prog_14_method_17_code
def y_Mo_variableAt : MethodName := ⟨R_Mo, "variableAt", "(I)Z"⟩
abbrev b_Mo_named : ByteArray := prog_14_method_18_code
def y_Mo_named : MethodName := ⟨R_Mo, "named", "(I)I"⟩
abbrev b_Mo_kinds : ByteArray := prog_14_method_19_code
def y_Mo_kinds : MethodName := ⟨R_Mo, "kinds", "(I)I"⟩
abbrev b_Mo_unknown : ByteArray := prog_14_method_20_code
def y_Mo_unknown : MethodName := ⟨R_Mo, "unknown", "()Z"⟩
abbrev b_Mo_twice : ByteArray := prog_14_method_21_code
def y_Mo_twice : MethodName := ⟨R_Mo, "twice", "()Z"⟩
abbrev b_Mo_unused : ByteArray := prog_14_method_22_code
def y_Mo_unused : MethodName := ⟨R_Mo, "unused", "()Z"⟩
abbrev b_Mo_cutList : ByteArray := prog_14_method_23_code
def y_Mo_cutList : MethodName := ⟨R_Mo, "cutList", "()Z"⟩
abbrev b_Mo_check : ByteArray := prog_14_method_24_code
def y_Mo_check : MethodName := ⟨R_Mo, "check", "()I"⟩
abbrev b_Mo_high : ByteArray := prog_14_method_25_code
def y_Mo_high : MethodName := ⟨R_Mo, "high", "(I)Z"⟩
abbrev b_Mo_low : ByteArray := prog_14_method_26_code
def y_Mo_low : MethodName := ⟨R_Mo, "low", "(I)Z"⟩
abbrev b_Mo_pair : ByteArray := prog_14_method_27_code
def y_Mo_pair : MethodName := ⟨R_Mo, "pair", "(II)Z"⟩
abbrev b_Mo_loneIn : ByteArray := prog_14_method_28_code
def y_Mo_loneIn : MethodName := ⟨R_Mo, "loneIn", "(I)Z"⟩
abbrev b_Mo_unfitIn : ByteArray := prog_14_method_29_code
def y_Mo_unfitIn : MethodName := ⟨R_Mo, "unfitIn", "(I)Z"⟩
abbrev b_Mo_itemFault : ByteArray := prog_14_method_30_code
def y_Mo_itemFault : MethodName := ⟨R_Mo, "itemFault", "()I"⟩
abbrev b_Mo_put : ByteArray := prog_14_method_31_code
def y_Mo_put : MethodName := ⟨R_Mo, "put", "(I)V"⟩
abbrev b_Mo_spell : ByteArray := prog_14_method_32_code
def y_Mo_spell : MethodName := ⟨R_Mo, "spell", "(J)V"⟩
abbrev b_Mo_number : ByteArray := prog_14_method_33_code
def y_Mo_number : MethodName := ⟨R_Mo, "number", "(I)V"⟩
abbrev b_Mo_end : ByteArray := prog_14_method_34_code
def y_Mo_end : MethodName := ⟨R_Mo, "end", "()V"⟩
abbrev b_Mo_hexadecimal : ByteArray := prog_14_method_35_code
def y_Mo_hexadecimal : MethodName := ⟨R_Mo, "hexadecimal", "(I)V"⟩
abbrev b_Mo_single : ByteArray := prog_14_method_36_code
def y_Mo_single : MethodName := ⟨R_Mo, "single", "(IZ)V"⟩
abbrev b_Mo_utf : ByteArray := prog_14_method_37_code
def y_Mo_utf : MethodName := ⟨R_Mo, "utf", "(IZ)V"⟩
abbrev b_Mo_hex : ByteArray := prog_14_method_38_code
def y_Mo_hex : MethodName := ⟨R_Mo, "hex", "(I)Z"⟩
abbrev b_Mo_loose : ByteArray := prog_14_method_39_code
def y_Mo_loose : MethodName := ⟨R_Mo, "loose", "(I)Z"⟩
abbrev b_Mo_encode : ByteArray := prog_14_method_40_code
def y_Mo_encode : MethodName := ⟨R_Mo, "encode", "(III)V"⟩
abbrev b_Mo_give : ByteArray := prog_14_method_41_code
def y_Mo_give : MethodName := ⟨R_Mo, "give", "(IIIII)V"⟩
abbrev b_Mo_between : ByteArray := prog_14_method_42_code
def y_Mo_between : MethodName := ⟨R_Mo, "between", "(I)V"⟩
abbrev b_Mo_expression : ByteArray := prog_14_method_43_code
def y_Mo_expression : MethodName := ⟨R_Mo, "expression", "(I)V"⟩
abbrev b_Mo_target : ByteArray := prog_14_method_44_code
def y_Mo_target : MethodName := ⟨R_Mo, "target", "()V"⟩
abbrev b_Mo_compose : ByteArray := prog_14_method_45_code
def y_Mo_compose : MethodName := ⟨R_Mo, "compose", "()V"⟩
abbrev b_Mo_headers : ByteArray := prog_14_method_46_code
def y_Mo_headers : MethodName := ⟨R_Mo, "headers", "()V"⟩
abbrev b_Mo_send : ByteArray := prog_14_method_47_code
def y_Mo_send : MethodName := ⟨R_Mo, "send", "()I"⟩
abbrev b_Mo_sent : ByteArray := prog_14_method_48_code
def y_Mo_sent : MethodName := ⟨R_Mo, "sent", "(I)I"⟩
abbrev b_Mo_line : ByteArray := prog_14_method_49_code
def y_Mo_line : MethodName := ⟨R_Mo, "line", "()I"⟩
abbrev b_Mo_lower : ByteArray := prog_14_method_50_code
def y_Mo_lower : MethodName := ⟨R_Mo, "lower", "(I)I"⟩
abbrev b_Mo_spelt : ByteArray := prog_14_method_51_code
def y_Mo_spelt : MethodName := ⟨R_Mo, "spelt", "(IIJJJ)Z"⟩
abbrev b_Mo_statusLine : ByteArray := prog_14_method_52_code
def y_Mo_statusLine : MethodName := ⟨R_Mo, "statusLine", "()I"⟩
abbrev b_Mo_counted : ByteArray := prog_14_method_53_code
def y_Mo_counted : MethodName := ⟨R_Mo, "counted", "(II)I"⟩
abbrev b_Mo_fieldLine : ByteArray := prog_14_method_54_code
def y_Mo_fieldLine : MethodName := ⟨R_Mo, "fieldLine", "(Z)Z"⟩
abbrev b_Mo_fieldLines : ByteArray := prog_14_method_55_code
def y_Mo_fieldLines : MethodName := ⟨R_Mo, "fieldLines", "(Z)I"⟩
abbrev b_Mo_head : ByteArray := prog_14_method_56_code
def y_Mo_head : MethodName := ⟨R_Mo, "head", "()I"⟩
abbrev b_Mo_take : ByteArray := prog_14_method_57_code
def y_Mo_take : MethodName := ⟨R_Mo, "take", "(I)Z"⟩
abbrev b_Mo_chunkSize : ByteArray := prog_14_method_58_code
def y_Mo_chunkSize : MethodName := ⟨R_Mo, "chunkSize", "()I"⟩
abbrev b_Mo_chunks : ByteArray := prog_14_method_59_code
def y_Mo_chunks : MethodName := ⟨R_Mo, "chunks", "()V"⟩
abbrev b_Mo_after : ByteArray := prog_14_method_60_code
def y_Mo_after : MethodName := ⟨R_Mo, "after", "()V"⟩
abbrev b_Mo_work : ByteArray := prog_14_method_61_code
def y_Mo_work : MethodName := ⟨R_Mo, "work", "()V"⟩
abbrev b_Mo_feed : ByteArray := prog_14_method_62_code
def y_Mo_feed : MethodName := ⟨R_Mo, "feed", "(I)I"⟩
abbrev b_Mo_close : ByteArray := prog_14_method_63_code
def y_Mo_close : MethodName := ⟨R_Mo, "close", "()I"⟩
abbrev b_Mo_reset : ByteArray := prog_14_method_64_code
def y_Mo_reset : MethodName := ⟨R_Mo, "reset", "()V"⟩
abbrev b_Mo_state : ByteArray := prog_14_method_65_code
def y_Mo_state : MethodName := ⟨R_Mo, "state", "()I"⟩
abbrev b_Mo_status : ByteArray := prog_14_method_66_code
def y_Mo_status : MethodName := ⟨R_Mo, "status", "()I"⟩
abbrev b_Mo_fields : ByteArray := prog_14_method_67_code
def y_Mo_fields : MethodName := ⟨R_Mo, "fields", "()I"⟩
abbrev b_Mo_length : ByteArray := prog_14_method_68_code
def y_Mo_length : MethodName := ⟨R_Mo, "length", "()I"⟩
abbrev b_Mo_content : ByteArray := prog_14_method_69_code
def y_Mo_content : MethodName := ⟨R_Mo, "content", "(I)I"⟩
abbrev b_ByteRow_init : ByteArray := prog_2_method_1_code
def y_ByteRow_init : MethodName := ⟨R_ByteRow, "<init>", "(I)V"⟩
abbrev b_ByteRow_put : ByteArray := prog_2_method_2_code
def y_ByteRow_put : MethodName := ⟨R_ByteRow, "put", "(I)V"⟩
abbrev b_ByteRow_putText : ByteArray := prog_2_method_3_code
def y_ByteRow_putText : MethodName := ⟨R_ByteRow, "putText", "(Ljava/lang/String;)V"⟩
abbrev b_ByteRow_putNumber : ByteArray := prog_2_method_4_code
def y_ByteRow_putNumber : MethodName := ⟨R_ByteRow, "putNumber", "(I)V"⟩
abbrev b_ByteRow_has : ByteArray := prog_2_method_5_code
def y_ByteRow_has : MethodName := ⟨R_ByteRow, "has", "(I)Z"⟩
abbrev b_ByteRow_at : ByteArray := prog_2_method_6_code
def y_ByteRow_at : MethodName := ⟨R_ByteRow, "at", "(I)I"⟩
abbrev b_Chars_isSmall : ByteArray := prog_3_method_2_code
def y_Chars_isSmall : MethodName := ⟨R_Chars, "isSmall", "(C)Z"⟩
abbrev b_Chars_isDigit : ByteArray := prog_3_method_3_code
def y_Chars_isDigit : MethodName := ⟨R_Chars, "isDigit", "(C)Z"⟩
abbrev b_Chars_isLetterOrDigit : ByteArray := prog_3_method_4_code
def y_Chars_isLetterOrDigit : MethodName := ⟨R_Chars, "isLetterOrDigit", "(C)Z"⟩
abbrev b_Chars_isUnreserved : ByteArray := prog_3_method_5_code
def y_Chars_isUnreserved : MethodName := ⟨R_Chars, "isUnreserved", "(C)Z"⟩
abbrev b_Chars_isLiteral : ByteArray := prog_3_method_6_code
def y_Chars_isLiteral : MethodName := ⟨R_Chars, "isLiteral", "(C)Z"⟩
abbrev b_Chars_isOperator : ByteArray := prog_3_method_7_code
def y_Chars_isOperator : MethodName := ⟨R_Chars, "isOperator", "(C)Z"⟩
abbrev b_Chars_isLooseMark : ByteArray := prog_3_method_8_code
def y_Chars_isLooseMark : MethodName := ⟨R_Chars, "isLooseMark", "(C)Z"⟩
abbrev b_Chars_isBlank : ByteArray := prog_3_method_9_code
def y_Chars_isBlank : MethodName := ⟨R_Chars, "isBlank", "(C)Z"⟩
abbrev b_Chars_toSmall : ByteArray := prog_3_method_10_code
def y_Chars_toSmall : MethodName := ⟨R_Chars, "toSmall", "(C)C"⟩
abbrev b_Chars_hexValue : ByteArray := prog_3_method_11_code
def y_Chars_hexValue : MethodName := ⟨R_Chars, "hexValue", "(C)I"⟩
abbrev b_Chars_hexDigit : ByteArray := prog_3_method_12_code
def y_Chars_hexDigit : MethodName := ⟨R_Chars, "hexDigit", "(I)I"⟩
abbrev b_Declaration_init : ByteArray := prog_4_method_1_code
def y_Declaration_init : MethodName := ⟨R_Declaration, "<init>", "()V"⟩
abbrev b_Declaration_begin : ByteArray := prog_4_method_2_code
def y_Declaration_begin : MethodName := ⟨R_Declaration, "begin", "(I)V"⟩
abbrev b_Declaration_verbName : ByteArray := prog_4_method_3_code
def y_Declaration_verbName : MethodName := ⟨R_Declaration, "verbName", "()Ljava/lang/String;"⟩
abbrev b_Declaration_mayHaveContent : ByteArray := prog_4_method_4_code
def y_Declaration_mayHaveContent : MethodName := ⟨R_Declaration, "mayHaveContent", "()Z"⟩
abbrev b_Declaration_addParameter : ByteArray := prog_4_method_5_code
def y_Declaration_addParameter : MethodName := ⟨R_Declaration, "addParameter", "(IC)I"⟩
abbrev b_Declaration_parameterAt : ByteArray := prog_4_method_6_code
def y_Declaration_parameterAt : MethodName := ⟨R_Declaration, "parameterAt", "(I)LTemplateCaller$Parameter;"⟩
abbrev b_Declaration_parameterOf : ByteArray := prog_4_method_7_code
def y_Declaration_parameterOf : MethodName := ⟨R_Declaration, "parameterOf", "(C)LTemplateCaller$Parameter;"⟩
abbrev b_Declaration_fault : ByteArray := prog_4_method_8_code
def y_Declaration_fault : MethodName := ⟨R_Declaration, "fault", "()I"⟩
abbrev b_Declaration_argumentFault : ByteArray := prog_4_method_9_code
def y_Declaration_argumentFault : MethodName := ⟨R_Declaration, "argumentFault", "()I"⟩
abbrev b_Declaration_hasUnknownVariable : ByteArray := prog_4_method_10_code
def y_Declaration_hasUnknownVariable : MethodName := ⟨R_Declaration, "hasUnknownVariable", "()Z"⟩
abbrev b_Declaration_hasLetterTwice : ByteArray := prog_4_method_11_code
def y_Declaration_hasLetterTwice : MethodName := ⟨R_Declaration, "hasLetterTwice", "()Z"⟩
abbrev b_Declaration_hasUnusedParameter : ByteArray := prog_4_method_12_code
def y_Declaration_hasUnusedParameter : MethodName := ⟨R_Declaration, "hasUnusedParameter", "()Z"⟩
abbrev b_Declaration_hasVariable : ByteArray := prog_4_method_13_code
def y_Declaration_hasVariable : MethodName := ⟨R_Declaration, "hasVariable", "(C)Z"⟩
abbrev b_Declaration_hasCutList : ByteArray := prog_4_method_14_code
def y_Declaration_hasCutList : MethodName := ⟨R_Declaration, "hasCutList", "()Z"⟩
abbrev b_Declaration_countOf : ByteArray := prog_4_method_15_code
def y_Declaration_countOf : MethodName := ⟨R_Declaration, "countOf", "(I)I"⟩
abbrev b_Encoder_putEncoded : ByteArray := prog_5_method_2_code
def y_Encoder_putEncoded : MethodName := ⟨R_Encoder, "putEncoded", "(LTemplateCaller$ByteRow;LTemplateCaller$Item;II)V"⟩
abbrev b_Encoder_putUtf8 : ByteArray := prog_5_method_3_code
def y_Encoder_putUtf8 : MethodName := ⟨R_Encoder, "putUtf8", "(LTemplateCaller$ByteRow;LTemplateCaller$Item;)V"⟩
abbrev b_Encoder_putEscaped : ByteArray := prog_5_method_4_code
def y_Encoder_putEscaped : MethodName := ⟨R_Encoder, "putEscaped", "(LTemplateCaller$ByteRow;I)V"⟩
abbrev b_Encoder_utf8Count : ByteArray := prog_5_method_5_code
def y_Encoder_utf8Count : MethodName := ⟨R_Encoder, "utf8Count", "(I)I"⟩
abbrev b_Encoder_utf8Byte : ByteArray := prog_5_method_6_code
def y_Encoder_utf8Byte : MethodName := ⟨R_Encoder, "utf8Byte", "(III)I"⟩
abbrev b_Head_init : ByteArray := prog_6_method_1_code
def y_Head_init : MethodName := ⟨R_Head, "<init>", "()V"⟩
abbrev b_Head_clear : ByteArray := prog_6_method_2_code
def y_Head_clear : MethodName := ⟨R_Head, "clear", "()V"⟩
abbrev b_Head_isForgotten : ByteArray := prog_6_method_3_code
def y_Head_isForgotten : MethodName := ⟨R_Head, "isForgotten", "()Z"⟩
abbrev b_Head_hasNoContent : ByteArray := prog_6_method_4_code
def y_Head_hasNoContent : MethodName := ⟨R_Head, "hasNoContent", "(I)Z"⟩
abbrev b_Head_readFirst : ByteArray := prog_6_method_5_code
def y_Head_readFirst : MethodName := ⟨R_Head, "readFirst", "(LTemplateCaller$Line;)Z"⟩
abbrev b_Head_readField : ByteArray := prog_6_method_6_code
def y_Head_readField : MethodName := ⟨R_Head, "readField", "(LTemplateCaller$Line;)Z"⟩
abbrev b_Head_readTrailing : ByteArray := prog_6_method_7_code
def y_Head_readTrailing : MethodName := ⟨R_Head, "readTrailing", "(LTemplateCaller$Line;)Z"⟩
abbrev b_Head_setContentLength : ByteArray := prog_6_method_8_code
def y_Head_setContentLength : MethodName := ⟨R_Head, "setContentLength", "(I)Z"⟩
abbrev b_Head_setChunked : ByteArray := prog_6_method_9_code
def y_Head_setChunked : MethodName := ⟨R_Head, "setChunked", "()Z"⟩
abbrev b_Item_init : ByteArray := prog_7_method_1_code
def y_Item_init : MethodName := ⟨R_Item, "<init>", "()V"⟩
abbrev b_Item_add : ByteArray := prog_7_method_2_code
def y_Item_add : MethodName := ⟨R_Item, "add", "(C)Z"⟩
abbrev b_Item_at : ByteArray := prog_7_method_3_code
def y_Item_at : MethodName := ⟨R_Item, "at", "(I)C"⟩
abbrev b_Item_isPair : ByteArray := prog_7_method_4_code
def y_Item_isPair : MethodName := ⟨R_Item, "isPair", "(I)Z"⟩
abbrev b_Item_codeAt : ByteArray := prog_7_method_5_code
def y_Item_codeAt : MethodName := ⟨R_Item, "codeAt", "(I)I"⟩
abbrev b_Item_endOf : ByteArray := prog_7_method_6_code
def y_Item_endOf : MethodName := ⟨R_Item, "endOf", "(I)I"⟩
abbrev b_Item_hasLone : ByteArray := prog_7_method_7_code
def y_Item_hasLone : MethodName := ⟨R_Item, "hasLone", "()Z"⟩
abbrev b_Item_fitsHeader : ByteArray := prog_7_method_8_code
def y_Item_fitsHeader : MethodName := ⟨R_Item, "fitsHeader", "()Z"⟩
abbrev b_Item_isEscape : ByteArray := prog_7_method_9_code
def y_Item_isEscape : MethodName := ⟨R_Item, "isEscape", "(II)Z"⟩
abbrev b_Line_init : ByteArray := prog_8_method_1_code
def y_Line_init : MethodName := ⟨R_Line, "<init>", "()V"⟩
abbrev b_Line_clear : ByteArray := prog_8_method_2_code
def y_Line_clear : MethodName := ⟨R_Line, "clear", "()V"⟩
abbrev b_Line_add : ByteArray := prog_8_method_3_code
def y_Line_add : MethodName := ⟨R_Line, "add", "(I)I"⟩
abbrev b_Line_at : ByteArray := prog_8_method_4_code
def y_Line_at : MethodName := ⟨R_Line, "at", "(I)C"⟩
abbrev b_Line_startsWith : ByteArray := prog_8_method_5_code
def y_Line_startsWith : MethodName := ⟨R_Line, "startsWith", "(Ljava/lang/String;)Z"⟩
abbrev b_Line_isWord : ByteArray := prog_8_method_6_code
def y_Line_isWord : MethodName := ⟨R_Line, "isWord", "(IILjava/lang/String;)Z"⟩
abbrev b_Line_colonBehindName : ByteArray := prog_8_method_7_code
def y_Line_colonBehindName : MethodName := ⟨R_Line, "colonBehindName", "()I"⟩
abbrev b_Line_skipBlanks : ByteArray := prog_8_method_8_code
def y_Line_skipBlanks : MethodName := ⟨R_Line, "skipBlanks", "(I)I"⟩
abbrev b_Line_endWithoutBlanks : ByteArray := prog_8_method_9_code
def y_Line_endWithoutBlanks : MethodName := ⟨R_Line, "endWithoutBlanks", "(I)I"⟩
abbrev b_Line_number : ByteArray := prog_8_method_10_code
def y_Line_number : MethodName := ⟨R_Line, "number", "(II)I"⟩
abbrev b_Line_chunkSize : ByteArray := prog_8_method_11_code
def y_Line_chunkSize : MethodName := ⟨R_Line, "chunkSize", "()I"⟩
abbrev b_Parameter_init : ByteArray := prog_9_method_1_code
def y_Parameter_init : MethodName := ⟨R_Parameter, "<init>", "()V"⟩
abbrev b_Parameter_begin : ByteArray := prog_9_method_2_code
def y_Parameter_begin : MethodName := ⟨R_Parameter, "begin", "(IC)V"⟩
abbrev b_Parameter_isInPath : ByteArray := prog_9_method_3_code
def y_Parameter_isInPath : MethodName := ⟨R_Parameter, "isInPath", "()Z"⟩
abbrev b_Parameter_addItem : ByteArray := prog_9_method_4_code
def y_Parameter_addItem : MethodName := ⟨R_Parameter, "addItem", "()Z"⟩
abbrev b_Parameter_addChar : ByteArray := prog_9_method_5_code
def y_Parameter_addChar : MethodName := ⟨R_Parameter, "addChar", "(C)Z"⟩
abbrev b_Parameter_dropItems : ByteArray := prog_9_method_6_code
def y_Parameter_dropItems : MethodName := ⟨R_Parameter, "dropItems", "()V"⟩
abbrev b_Parameter_hasLone : ByteArray := prog_9_method_7_code
def y_Parameter_hasLone : MethodName := ⟨R_Parameter, "hasLone", "()Z"⟩
abbrev b_Parameter_fitsHeader : ByteArray := prog_9_method_8_code
def y_Parameter_fitsHeader : MethodName := ⟨R_Parameter, "fitsHeader", "()Z"⟩
abbrev b_PathTemplate_init : ByteArray := prog_10_method_1_code
def y_PathTemplate_init : MethodName := ⟨R_PathTemplate, "<init>", "()V"⟩
abbrev b_PathTemplate_add : ByteArray := prog_10_method_2_code
def y_PathTemplate_add : MethodName := ⟨R_PathTemplate, "add", "(C)Z"⟩
abbrev b_PathTemplate_at : ByteArray := prog_10_method_3_code
def y_PathTemplate_at : MethodName := ⟨R_PathTemplate, "at", "(I)C"⟩
abbrev b_PathTemplate_isWellFormed : ByteArray := prog_10_method_4_code
def y_PathTemplate_isWellFormed : MethodName := ⟨R_PathTemplate, "isWellFormed", "()Z"⟩
abbrev b_PathTemplate_placeBehind : ByteArray := prog_10_method_5_code
def y_PathTemplate_placeBehind : MethodName := ⟨R_PathTemplate, "placeBehind", "(IC)I"⟩
abbrev b_PathTemplate_placeBehindVariable : ByteArray := prog_10_method_6_code
def y_PathTemplate_placeBehindVariable : MethodName := ⟨R_PathTemplate, "placeBehindVariable", "(C)I"⟩
abbrev b_PathTemplate_isVariable : ByteArray := prog_10_method_7_code
def y_PathTemplate_isVariable : MethodName := ⟨R_PathTemplate, "isVariable", "(I)Z"⟩
abbrev b_PathTemplate_isSpread : ByteArray := prog_10_method_8_code
def y_PathTemplate_isSpread : MethodName := ⟨R_PathTemplate, "isSpread", "(I)Z"⟩
abbrev b_PathTemplate_isCut : ByteArray := prog_10_method_9_code
def y_PathTemplate_isCut : MethodName := ⟨R_PathTemplate, "isCut", "(I)Z"⟩
abbrev b_PathTemplate_charactersFor : ByteArray := prog_10_method_10_code
def y_PathTemplate_charactersFor : MethodName := ⟨R_PathTemplate, "charactersFor", "(I)I"⟩
abbrev b_PathTemplate_operatorBehind : ByteArray := prog_10_method_11_code
def y_PathTemplate_operatorBehind : MethodName := ⟨R_PathTemplate, "operatorBehind", "(I)C"⟩
abbrev b_Reader_init : ByteArray := prog_11_method_1_code
def y_Reader_init : MethodName := ⟨R_Reader, "<init>", "()V"⟩
abbrev b_Reader_restart : ByteArray := prog_11_method_2_code
def y_Reader_restart : MethodName := ⟨R_Reader, "restart", "()V"⟩
abbrev b_Reader_end : ByteArray := prog_11_method_3_code
def y_Reader_end : MethodName := ⟨R_Reader, "end", "()V"⟩
abbrev b_Reader_take : ByteArray := prog_11_method_4_code
def y_Reader_take : MethodName := ⟨R_Reader, "take", "(II)V"⟩
abbrev b_Reader_takeCounted : ByteArray := prog_11_method_5_code
def y_Reader_takeCounted : MethodName := ⟨R_Reader, "takeCounted", "(I)V"⟩
abbrev b_Reader_takeUncounted : ByteArray := prog_11_method_6_code
def y_Reader_takeUncounted : MethodName := ⟨R_Reader, "takeUncounted", "(I)V"⟩
abbrev b_Reader_takeDue : ByteArray := prog_11_method_7_code
def y_Reader_takeDue : MethodName := ⟨R_Reader, "takeDue", "(III)V"⟩
abbrev b_Reader_takeOfLine : ByteArray := prog_11_method_8_code
def y_Reader_takeOfLine : MethodName := ⟨R_Reader, "takeOfLine", "(II)V"⟩
abbrev b_Reader_readLine : ByteArray := prog_11_method_9_code
def y_Reader_readLine : MethodName := ⟨R_Reader, "readLine", "(I)Z"⟩
abbrev b_Reader_endHead : ByteArray := prog_11_method_10_code
def y_Reader_endHead : MethodName := ⟨R_Reader, "endHead", "(I)Z"⟩
abbrev b_Reader_beginContent : ByteArray := prog_11_method_11_code
def y_Reader_beginContent : MethodName := ⟨R_Reader, "beginContent", "()Z"⟩
abbrev b_Reader_beginChunk : ByteArray := prog_11_method_12_code
def y_Reader_beginChunk : MethodName := ⟨R_Reader, "beginChunk", "(I)Z"⟩
abbrev b_Reader_endContent : ByteArray := prog_11_method_13_code
def y_Reader_endContent : MethodName := ⟨R_Reader, "endContent", "()Z"⟩
abbrev b_RequestWriter_init : ByteArray := prog_12_method_1_code
def y_RequestWriter_init : MethodName := ⟨R_RequestWriter, "<init>", "(LTemplateCaller$Declaration;)V"⟩
abbrev b_RequestWriter_compose : ByteArray := prog_12_method_2_code
def y_RequestWriter_compose : MethodName := ⟨R_RequestWriter, "compose", "(LTemplateCaller$ByteRow;)V"⟩
abbrev b_RequestWriter_putExpanded : ByteArray := prog_12_method_3_code
def y_RequestWriter_putExpanded : MethodName := ⟨R_RequestWriter, "putExpanded", "(LTemplateCaller$ByteRow;)V"⟩
abbrev b_RequestWriter_putStartOrBreak : ByteArray := prog_12_method_4_code
def y_RequestWriter_putStartOrBreak : MethodName := ⟨R_RequestWriter, "putStartOrBreak", "(LTemplateCaller$ByteRow;CZ)V"⟩
abbrev b_RequestWriter_startsWithItself : ByteArray := prog_12_method_5_code
def y_RequestWriter_startsWithItself : MethodName := ⟨R_RequestWriter, "startsWithItself", "(C)Z"⟩
abbrev b_RequestWriter_breakOf : ByteArray := prog_12_method_6_code
def y_RequestWriter_breakOf : MethodName := ⟨R_RequestWriter, "breakOf", "(C)C"⟩
abbrev b_RequestWriter_putVariable : ByteArray := prog_12_method_7_code
def y_RequestWriter_putVariable : MethodName := ⟨R_RequestWriter, "putVariable", "(LTemplateCaller$ByteRow;ILTemplateCaller$Parameter;C)V"⟩
abbrev b_RequestWriter_putQuery : ByteArray := prog_12_method_8_code
def y_RequestWriter_putQuery : MethodName := ⟨R_RequestWriter, "putQuery", "(LTemplateCaller$ByteRow;)V"⟩
abbrev b_RequestWriter_putQueryItems : ByteArray := prog_12_method_9_code
def y_RequestWriter_putQueryItems : MethodName := ⟨R_RequestWriter, "putQueryItems", "(LTemplateCaller$ByteRow;LTemplateCaller$Parameter;)V"⟩
abbrev b_RequestWriter_putHeaders : ByteArray := prog_12_method_10_code
def y_RequestWriter_putHeaders : MethodName := ⟨R_RequestWriter, "putHeaders", "(LTemplateCaller$ByteRow;)V"⟩
abbrev b_RequestWriter_putHeader : ByteArray := prog_12_method_11_code
def y_RequestWriter_putHeader : MethodName := ⟨R_RequestWriter, "putHeader", "(LTemplateCaller$ByteRow;LTemplateCaller$Parameter;)V"⟩
abbrev b_RequestWriter_putAscii : ByteArray := prog_12_method_12_code
def y_RequestWriter_putAscii : MethodName := ⟨R_RequestWriter, "putAscii", "(LTemplateCaller$ByteRow;LTemplateCaller$Item;)V"⟩
abbrev b_RequestWriter_putBodyOrForm : ByteArray := prog_12_method_13_code
def y_RequestWriter_putBodyOrForm : MethodName := ⟨R_RequestWriter, "putBodyOrForm", "(LTemplateCaller$ByteRow;)V"⟩
abbrev b_RequestWriter_putFormItems : ByteArray := prog_12_method_14_code
def y_RequestWriter_putFormItems : MethodName := ⟨R_RequestWriter, "putFormItems", "(LTemplateCaller$ByteRow;LTemplateCaller$Parameter;I)V"⟩
abbrev b_String_charAt : ByteArray := prog_17_method_56_code
def y_String_charAt : MethodName := ⟨R_String, "charAt", "(I)C"⟩
abbrev b_String_coder : ByteArray := prog_17_method_152_code
def y_String_coder : MethodName := ⟨R_String, "coder", "()B"⟩
abbrev b_String_indexOf : ByteArray := prog_17_method_79_code
def y_String_indexOf : MethodName := ⟨R_String, "indexOf", "(I)I"⟩
abbrev b_String_indexOf2 : ByteArray := prog_17_method_80_code
def y_String_indexOf2 : MethodName := ⟨R_String, "indexOf", "(II)I"⟩
abbrev b_String_isLatin1 : ByteArray := prog_17_method_154_code
def y_String_isLatin1 : MethodName := ⟨R_String, "isLatin1", "()Z"⟩
abbrev b_String_length : ByteArray := prog_17_method_54_code
def y_String_length : MethodName := ⟨R_String, "length", "()I"⟩
abbrev b_String_checkIndex : ByteArray := prog_17_method_155_code
def y_String_checkIndex : MethodName := ⟨R_String, "checkIndex", "(II)V"⟩
abbrev b_StringLatin1_canEncode : ByteArray := prog_18_method_4_code
def y_StringLatin1_canEncode : MethodName := ⟨R_StringLatin1, "canEncode", "(I)Z"⟩
abbrev b_StringLatin1_charAt : ByteArray := prog_18_method_2_code
def y_StringLatin1_charAt : MethodName := ⟨R_StringLatin1, "charAt", "([BI)C"⟩
abbrev b_StringLatin1_indexOf : ByteArray := prog_18_method_22_code
def y_StringLatin1_indexOf : MethodName := ⟨R_StringLatin1, "indexOf", "([BIII)I"⟩
abbrev b_StringLatin1_indexOfChar : ByteArray := prog_18_method_23_code
def y_StringLatin1_indexOfChar : MethodName := ⟨R_StringLatin1, "indexOfChar", "([BIII)I"⟩
abbrev b_Math_max : ByteArray := prog_16_method_65_code
def y_Math_max : MethodName := ⟨R_Math, "max", "(II)I"⟩
abbrev b_Math_min : ByteArray := prog_16_method_69_code
def y_Math_min : MethodName := ⟨R_Math, "min", "(II)I"⟩
abbrev b_Preconditions_checkIndex : ByteArray := prog_20_method_11_code
def y_Preconditions_checkIndex : MethodName := ⟨R_Preconditions, "checkIndex", "(IILjava/util/function/BiFunction;)I"⟩
abbrev classes : List vw_C := [(R_TC, F_TC, 5), (R_Declaration, F_Declaration, 4), (R_PathTemplate, F_PathTemplate, 2), (R_RequestWriter, F_RequestWriter, 3), (R_Reader, F_Reader, 7), (R_Line, F_Line, 3), (R_Head, F_Head, 5), (R_Parameter, F_Parameter, 4), (R_Item, F_Item, 2), (R_ByteRow, F_ByteRow, 2), (R_Mo, F_Mo, 31)]
def WS : List Cond := [.initialized "TemplateCallerLaw", .initialized "TemplateCaller", .initialized "TemplateCaller$Declaration", .initialized "TemplateCaller$PathTemplate", .initialized "TemplateCaller$Parameter", .initialized "TemplateCaller$Item", .initialized "TemplateCaller$RequestWriter", .initialized "TemplateCaller$ByteRow", .initialized "TemplateCaller$Reader", .initialized "TemplateCaller$Line", .initialized "TemplateCaller$Head", .initialized "TemplateCallerModel", .initialized "TemplateCaller$Chars", .initialized "java/lang/String", .initialized "java/lang/StringLatin1", .initialized "java/lang/Math", .initialized "java/lang/StringUTF16", .initialized "jdk/internal/util/Preconditions", .initialized "java/lang/Character", .initialized "TemplateCaller$Encoder", .classLink "TemplateCallerLaw" 7 "TemplateCaller", .instantiable "TemplateCaller" 5, .methodLink "TemplateCallerLaw" 9 y_TC_init, .instanceMethod y_TC_init, .code y_TC_init b_TC_init 1 none, .methodLink "TemplateCaller" 1 objectInit, .instanceMethod objectInit, .code objectInit ⟨#[0xb1]⟩ 1 none, .classLink "TemplateCaller" 7 "TemplateCaller$Declaration", .instantiable "TemplateCaller$Declaration" 4, .methodLink "TemplateCaller" 9 y_Declaration_init, .instanceMethod y_Declaration_init, .code y_Declaration_init b_Declaration_init 2 none, .methodLink "TemplateCaller$Declaration" 3 objectInit, .classLink "TemplateCaller$Declaration" 9 "TemplateCaller$PathTemplate", .instantiable "TemplateCaller$PathTemplate" 2, .instanceMethod y_PathTemplate_init, .code y_PathTemplate_init b_PathTemplate_init 1 none, .methodLink "TemplateCaller$PathTemplate" 1 objectInit, .fieldLink "TemplateCaller$PathTemplate" 9 "TemplateCaller$PathTemplate" "text" "[C", .fieldLink "TemplateCaller$PathTemplate" 13 "TemplateCaller$PathTemplate" "size" "I", .laysFinal "TemplateCaller$PathTemplate" "TemplateCaller$PathTemplate" "text" "[C", .lays "TemplateCaller$PathTemplate" "TemplateCaller$PathTemplate" "size" "I", .arrayClass .char, .classLink "TemplateCaller$Declaration" 18 "TemplateCaller$Parameter", .instantiable "TemplateCaller$Parameter" 4, .methodLink "TemplateCaller$Declaration" 31 y_Parameter_init, .instanceMethod y_Parameter_init, .code y_Parameter_init b_Parameter_init 2 none, .methodLink "TemplateCaller$Parameter" 1 objectInit, .classLink "TemplateCaller$Parameter" 9 "TemplateCaller$Item", .instantiable "TemplateCaller$Item" 2, .instanceMethod y_Item_init, .code y_Item_init b_Item_init 1 none, .methodLink "TemplateCaller$Item" 1 objectInit, .fieldLink "TemplateCaller$Item" 9 "TemplateCaller$Item" "chars" "[C", .fieldLink "TemplateCaller$Item" 13 "TemplateCaller$Item" "size" "I", .laysFinal "TemplateCaller$Item" "TemplateCaller$Item" "chars" "[C", .lays "TemplateCaller$Item" "TemplateCaller$Item" "size" "I", .fieldLink "TemplateCaller$Parameter" 11 "TemplateCaller$Parameter" "items" "[LTemplateCaller$Item;", .fieldLink "TemplateCaller$Parameter" 15 "TemplateCaller$Parameter" "count" "I", .fieldLink "TemplateCaller$Parameter" 19 "TemplateCaller$Parameter" "kind" "I", .fieldLink "TemplateCaller$Parameter" 22 "TemplateCaller$Parameter" "letter" "C", .laysFinal "TemplateCaller$Parameter" "TemplateCaller$Parameter" "items" "[LTemplateCaller$Item;", .lays "TemplateCaller$Parameter" "TemplateCaller$Parameter" "count" "I", .lays "TemplateCaller$Parameter" "TemplateCaller$Parameter" "kind" "I", .lays "TemplateCaller$Parameter" "TemplateCaller$Parameter" "letter" "C", .fieldLink "TemplateCaller$Declaration" 12 "TemplateCaller$Declaration" "path" "LTemplateCaller$PathTemplate;", .fieldLink "TemplateCaller$Declaration" 20 "TemplateCaller$Declaration" "parameters" "[LTemplateCaller$Parameter;", .fieldLink "TemplateCaller$Declaration" 24 "TemplateCaller$Declaration" "count" "I", .fieldLink "TemplateCaller$Declaration" 28 "TemplateCaller$Declaration" "verb" "I", .laysFinal "TemplateCaller$Declaration" "TemplateCaller$Declaration" "path" "LTemplateCaller$PathTemplate;", .laysFinal "TemplateCaller$Declaration" "TemplateCaller$Declaration" "parameters" "[LTemplateCaller$Parameter;", .lays "TemplateCaller$Declaration" "TemplateCaller$Declaration" "count" "I", .lays "TemplateCaller$Declaration" "TemplateCaller$Declaration" "verb" "I", .classLink "TemplateCaller" 16 "TemplateCaller$RequestWriter", .instantiable "TemplateCaller$RequestWriter" 3, .methodLink "TemplateCaller" 18 y_RequestWriter_init, .instanceMethod y_RequestWriter_init, .code y_RequestWriter_init b_RequestWriter_init 2 none, .methodLink "TemplateCaller$RequestWriter" 1 objectInit, .classLink "TemplateCaller$RequestWriter" 7 "TemplateCaller$ByteRow", .instantiable "TemplateCaller$ByteRow" 2, .methodLink "TemplateCaller$RequestWriter" 9 y_ByteRow_init, .instanceMethod y_ByteRow_init, .code y_ByteRow_init b_ByteRow_init 2 none, .methodLink "TemplateCaller$ByteRow" 1 objectInit, .fieldLink "TemplateCaller$ByteRow" 13 "TemplateCaller$ByteRow" "bytes" "[B", .fieldLink "TemplateCaller$ByteRow" 7 "TemplateCaller$ByteRow" "size" "I", .laysFinal "TemplateCaller$ByteRow" "TemplateCaller$ByteRow" "bytes" "[B", .lays "TemplateCaller$ByteRow" "TemplateCaller$ByteRow" "size" "I", .arrayClass .byte, .fieldLink "TemplateCaller$RequestWriter" 18 "TemplateCaller$RequestWriter" "declaration" "LTemplateCaller$Declaration;", .fieldLink "TemplateCaller$RequestWriter" 28 "TemplateCaller$RequestWriter" "path" "LTemplateCaller$PathTemplate;", .fieldLink "TemplateCaller$RequestWriter" 12 "TemplateCaller$RequestWriter" "counter" "LTemplateCaller$ByteRow;", .laysFinal "TemplateCaller$RequestWriter" "TemplateCaller$RequestWriter" "declaration" "LTemplateCaller$Declaration;", .laysFinal "TemplateCaller$RequestWriter" "TemplateCaller$RequestWriter" "path" "LTemplateCaller$PathTemplate;", .laysFinal "TemplateCaller$RequestWriter" "TemplateCaller$RequestWriter" "counter" "LTemplateCaller$ByteRow;", .classLink "TemplateCaller" 25 "TemplateCaller$Reader", .instantiable "TemplateCaller$Reader" 7, .methodLink "TemplateCaller" 27 y_Reader_init, .instanceMethod y_Reader_init, .code y_Reader_init b_Reader_init 1 none, .methodLink "TemplateCaller$Reader" 3 objectInit, .classLink "TemplateCaller$Reader" 9 "TemplateCaller$Line", .instantiable "TemplateCaller$Line" 3, .instanceMethod y_Line_init, .code y_Line_init b_Line_init 1 none, .methodLink "TemplateCaller$Line" 1 objectInit, .fieldLink "TemplateCaller$Line" 9 "TemplateCaller$Line" "text" "[C", .fieldLink "TemplateCaller$Line" 13 "TemplateCaller$Line" "size" "I", .fieldLink "TemplateCaller$Line" 17 "TemplateCaller$Line" "returned" "Z", .laysFinal "TemplateCaller$Line" "TemplateCaller$Line" "text" "[C", .lays "TemplateCaller$Line" "TemplateCaller$Line" "size" "I", .lays "TemplateCaller$Line" "TemplateCaller$Line" "returned" "Z", .classLink "TemplateCaller$Reader" 18 "TemplateCaller$Head", .instantiable "TemplateCaller$Head" 5, .methodLink "TemplateCaller$Reader" 20 y_Head_init, .instanceMethod y_Head_init, .code y_Head_init b_Head_init 1 none, .methodLink "TemplateCaller$Head" 1 objectInit, .methodLink "TemplateCaller$Head" 7 y_Head_clear, .instanceMethod y_Head_clear, .selects "TemplateCaller$Head" y_Head_clear y_Head_clear, .code y_Head_clear b_Head_clear 1 none, .fieldLink "TemplateCaller$Head" 12 "TemplateCaller$Head" "statusCode" "I", .fieldLink "TemplateCaller$Head" 16 "TemplateCaller$Head" "fieldLines" "I", .fieldLink "TemplateCaller$Head" 19 "TemplateCaller$Head" "trailingLines" "I", .fieldLink "TemplateCaller$Head" 22 "TemplateCaller$Head" "contentLength" "I", .fieldLink "TemplateCaller$Head" 25 "TemplateCaller$Head" "chunked" "Z", .lays "TemplateCaller$Head" "TemplateCaller$Head" "statusCode" "I", .lays "TemplateCaller$Head" "TemplateCaller$Head" "fieldLines" "I", .lays "TemplateCaller$Head" "TemplateCaller$Head" "trailingLines" "I", .lays "TemplateCaller$Head" "TemplateCaller$Head" "contentLength" "I", .lays "TemplateCaller$Head" "TemplateCaller$Head" "chunked" "Z", .classLink "TemplateCaller$Reader" 25 "TemplateCaller$ByteRow", .methodLink "TemplateCaller$Reader" 27 y_ByteRow_init, .methodLink "TemplateCaller$Reader" 34 y_Reader_restart, .instanceMethod y_Reader_restart, .selects "TemplateCaller$Reader" y_Reader_restart y_Reader_restart, .code y_Reader_restart b_Reader_restart 1 none, .methodLink "TemplateCaller$Reader" 37 y_Line_clear, .instanceMethod y_Line_clear, .selects "TemplateCaller$Line" y_Line_clear y_Line_clear, .code y_Line_clear b_Line_clear 1 none, .methodLink "TemplateCaller$Reader" 40 y_Head_clear, .fieldLink "TemplateCaller$Reader" 12 "TemplateCaller$Reader" "line" "LTemplateCaller$Line;", .fieldLink "TemplateCaller$Reader" 21 "TemplateCaller$Reader" "head" "LTemplateCaller$Head;", .fieldLink "TemplateCaller$Reader" 30 "TemplateCaller$Reader" "body" "LTemplateCaller$ByteRow;", .fieldLink "TemplateCaller$Reader" 45 "TemplateCaller$Reader" "state" "I", .fieldLink "TemplateCaller$Reader" 48 "TemplateCaller$Reader" "place" "I", .fieldLink "TemplateCaller$Reader" 51 "TemplateCaller$Reader" "endedStatus" "I", .fieldLink "TemplateCaller$Reader" 54 "TemplateCaller$Reader" "bytesLeft" "I", .laysFinal "TemplateCaller$Reader" "TemplateCaller$Reader" "line" "LTemplateCaller$Line;", .laysFinal "TemplateCaller$Reader" "TemplateCaller$Reader" "head" "LTemplateCaller$Head;", .laysFinal "TemplateCaller$Reader" "TemplateCaller$Reader" "body" "LTemplateCaller$ByteRow;", .lays "TemplateCaller$Reader" "TemplateCaller$Reader" "state" "I", .lays "TemplateCaller$Reader" "TemplateCaller$Reader" "place" "I", .lays "TemplateCaller$Reader" "TemplateCaller$Reader" "endedStatus" "I", .lays "TemplateCaller$Reader" "TemplateCaller$Reader" "bytesLeft" "I", .classLink "TemplateCaller" 32 "TemplateCaller$ByteRow", .methodLink "TemplateCaller" 34 y_ByteRow_init, .fieldLink "TemplateCaller" 10 "TemplateCaller" "declaration" "LTemplateCaller$Declaration;", .fieldLink "TemplateCaller" 21 "TemplateCaller" "writer" "LTemplateCaller$RequestWriter;", .fieldLink "TemplateCaller" 28 "TemplateCaller" "reader" "LTemplateCaller$Reader;", .fieldLink "TemplateCaller" 37 "TemplateCaller" "made" "LTemplateCaller$ByteRow;", .fieldLink "TemplateCaller" 41 "TemplateCaller" "spare" "LTemplateCaller$ByteRow;", .laysFinal "TemplateCaller" "TemplateCaller" "declaration" "LTemplateCaller$Declaration;", .laysFinal "TemplateCaller" "TemplateCaller" "writer" "LTemplateCaller$RequestWriter;", .laysFinal "TemplateCaller" "TemplateCaller" "reader" "LTemplateCaller$Reader;", .lays "TemplateCaller" "TemplateCaller" "made" "LTemplateCaller$ByteRow;", .lays "TemplateCaller" "TemplateCaller" "spare" "LTemplateCaller$ByteRow;", .methodLink "TemplateCallerLaw" 13 y_TC_declare, .instanceMethod y_TC_declare, .selects "TemplateCaller" y_TC_declare y_TC_declare, .code y_TC_declare b_TC_declare 2 (some .boolean), .methodLink "TemplateCaller" 44 y_Declaration_begin, .instanceMethod y_Declaration_begin, .selects "TemplateCaller$Declaration" y_Declaration_begin y_Declaration_begin, .code y_Declaration_begin b_Declaration_begin 2 none, .methodLink "TemplateCallerLaw" 18 y_TC_template, .instanceMethod y_TC_template, .selects "TemplateCaller" y_TC_template y_TC_template, .code y_TC_template b_TC_template 2 (some .boolean), .methodLink "TemplateCaller" 51 y_PathTemplate_add, .instanceMethod y_PathTemplate_add, .selects "TemplateCaller$PathTemplate" y_PathTemplate_add y_PathTemplate_add, .code y_PathTemplate_add b_PathTemplate_add 2 (some .boolean), .methodLink "TemplateCallerLaw" 23 y_TC_parameter, .instanceMethod y_TC_parameter, .selects "TemplateCaller" y_TC_parameter y_TC_parameter, .code y_TC_parameter b_TC_parameter 3 (some .int), .methodLink "TemplateCaller" 59 y_Chars_isSmall, .static y_Chars_isSmall, .code y_Chars_isSmall b_Chars_isSmall 1 (some .boolean), .methodLink "TemplateCaller" 64 y_Declaration_addParameter, .instanceMethod y_Declaration_addParameter, .selects "TemplateCaller$Declaration" y_Declaration_addParameter y_Declaration_addParameter, .code y_Declaration_addParameter b_Declaration_addParameter 3 (some .int), .methodLink "TemplateCaller$Declaration" 45 y_Parameter_begin, .instanceMethod y_Parameter_begin, .selects "TemplateCaller$Parameter" y_Parameter_begin y_Parameter_begin, .code y_Parameter_begin b_Parameter_begin 3 none, .methodLink "TemplateCallerLaw" 28 y_TC_check, .instanceMethod y_TC_check, .selects "TemplateCaller" y_TC_check y_TC_check, .code y_TC_check b_TC_check 1 (some .int), .methodLink "TemplateCaller" 68 y_Declaration_fault, .instanceMethod y_Declaration_fault, .selects "TemplateCaller$Declaration" y_Declaration_fault y_Declaration_fault, .code y_Declaration_fault b_Declaration_fault 3 (some .int), .methodLink "TemplateCaller$Declaration" 57 y_PathTemplate_isWellFormed, .instanceMethod y_PathTemplate_isWellFormed, .selects "TemplateCaller$PathTemplate" y_PathTemplate_isWellFormed y_PathTemplate_isWellFormed, .code y_PathTemplate_isWellFormed b_PathTemplate_isWellFormed 3 (some .boolean), .methodLink "TemplateCaller$PathTemplate" 17 y_PathTemplate_at, .instanceMethod y_PathTemplate_at, .selects "TemplateCaller$PathTemplate" y_PathTemplate_at y_PathTemplate_at, .code y_PathTemplate_at b_PathTemplate_at 2 (some .char), .methodLink "TemplateCaller$PathTemplate" 21 y_PathTemplate_placeBehind, .static y_PathTemplate_placeBehind, .code y_PathTemplate_placeBehind b_PathTemplate_placeBehind 2 (some .int), .methodLink "TemplateCaller$PathTemplate" 25 y_Chars_isLiteral, .static y_Chars_isLiteral, .code y_Chars_isLiteral b_Chars_isLiteral 1 (some .boolean), .methodLink "TemplateCaller$Chars" 7 y_Chars_isLetterOrDigit, .static y_Chars_isLetterOrDigit, .code y_Chars_isLetterOrDigit b_Chars_isLetterOrDigit 1 (some .boolean), .methodLink "TemplateCaller$Chars" 15 y_String_indexOf, .instanceMethod y_String_indexOf, .selects "java/lang/String" y_String_indexOf y_String_indexOf, .code y_String_indexOf b_String_indexOf 2 (some .int), .methodLink "java/lang/String" 633 y_String_indexOf2, .instanceMethod y_String_indexOf2, .selects "java/lang/String" y_String_indexOf2 y_String_indexOf2, .code y_String_indexOf2 b_String_indexOf2 3 (some .int), .methodLink "java/lang/String" 492 y_String_isLatin1, .instanceMethod y_String_isLatin1, .selects "java/lang/String" y_String_isLatin1 y_String_isLatin1, .code y_String_isLatin1 b_String_isLatin1 1 (some .boolean), .fieldLink "java/lang/String" 38 "java/lang/String" "COMPACT_STRINGS" "Z", .methodLink "java/lang/String" 505 y_String_length, .instanceMethod y_String_length, .selects "java/lang/String" y_String_length y_String_length, .code y_String_length b_String_length 1 (some .int), .methodLink "java/lang/String" 335 y_String_coder, .instanceMethod y_String_coder, .selects "java/lang/String" y_String_coder y_String_coder, .code y_String_coder b_String_coder 1 (some .byte), .methodLink "java/lang/String" 637 y_StringLatin1_indexOf, .static y_StringLatin1_indexOf, .code y_StringLatin1_indexOf b_StringLatin1_indexOf 4 (some .int), .methodLink "java/lang/StringLatin1" 88 y_StringLatin1_canEncode, .static y_StringLatin1_canEncode, .code y_StringLatin1_canEncode b_StringLatin1_canEncode 1 (some .boolean), .methodLink "java/lang/StringLatin1" 92 y_Math_max, .static y_Math_max, .code y_Math_max b_Math_max 2 (some .int), .methodLink "java/lang/StringLatin1" 38 y_Math_min, .static y_Math_min, .code y_Math_min b_Math_min 2 (some .int), .methodLink "java/lang/StringLatin1" 95 y_StringLatin1_indexOfChar, .static y_StringLatin1_indexOfChar, .code y_StringLatin1_indexOfChar b_StringLatin1_indexOfChar 6 (some .int), .methodLink "java/lang/StringUTF16" 224 y_Math_max, .methodLink "java/lang/StringUTF16" 183 y_Math_min, .constant "java/lang/StringUTF16" 227 65536, .fieldLink "java/lang/String" 1053 "jdk/internal/util/Preconditions" "SIOOBE_FORMATTER" "Ljava/util/function/BiFunction;", .fieldLink "java/lang/StringUTF16" 44 "java/lang/StringUTF16" "$assertionsDisabled" "Z", .fieldLink "java/lang/StringUTF16" 59 "java/lang/StringUTF16" "HI_BYTE_SHIFT" "I", .fieldLink "java/lang/StringUTF16" 63 "java/lang/StringUTF16" "LO_BYTE_SHIFT" "I", .constant "java/lang/Character" 110 55232, .constant "java/lang/Character" 76 56320, .methodLink "TemplateCaller$PathTemplate" 31 y_Chars_isOperator, .static y_Chars_isOperator, .code y_Chars_isOperator b_Chars_isOperator 1 (some .boolean), .methodLink "TemplateCaller$PathTemplate" 34 y_Chars_isSmall, .methodLink "TemplateCaller$PathTemplate" 37 y_PathTemplate_placeBehindVariable, .static y_PathTemplate_placeBehindVariable, .code y_PathTemplate_placeBehindVariable b_PathTemplate_placeBehindVariable 1 (some .int), .methodLink "TemplateCaller$Declaration" 60 y_Declaration_hasUnknownVariable, .instanceMethod y_Declaration_hasUnknownVariable, .code y_Declaration_hasUnknownVariable b_Declaration_hasUnknownVariable 2 (some .boolean), .methodLink "TemplateCaller$Declaration" 88 y_PathTemplate_isVariable, .instanceMethod y_PathTemplate_isVariable, .selects "TemplateCaller$PathTemplate" y_PathTemplate_isVariable y_PathTemplate_isVariable, .code y_PathTemplate_isVariable b_PathTemplate_isVariable 3 (some .boolean), .methodLink "TemplateCaller$Declaration" 92 y_PathTemplate_at, .methodLink "TemplateCaller$Declaration" 96 y_Declaration_parameterOf, .instanceMethod y_Declaration_parameterOf, .selects "TemplateCaller$Declaration" y_Declaration_parameterOf y_Declaration_parameterOf, .code y_Declaration_parameterOf b_Declaration_parameterOf 3 (some (.object "TemplateCaller$Parameter")), .methodLink "TemplateCaller$Declaration" 49 y_Parameter_isInPath, .instanceMethod y_Parameter_isInPath, .selects "TemplateCaller$Parameter" y_Parameter_isInPath y_Parameter_isInPath, .code y_Parameter_isInPath b_Parameter_isInPath 1 (some .boolean), .methodLink "TemplateCaller$Declaration" 63 y_Declaration_hasLetterTwice, .instanceMethod y_Declaration_hasLetterTwice, .code y_Declaration_hasLetterTwice b_Declaration_hasLetterTwice 3 (some .boolean), .methodLink "TemplateCaller$Declaration" 66 y_Declaration_hasUnusedParameter, .instanceMethod y_Declaration_hasUnusedParameter, .code y_Declaration_hasUnusedParameter b_Declaration_hasUnusedParameter 2 (some .boolean), .methodLink "TemplateCaller$Declaration" 100 y_Declaration_hasVariable, .instanceMethod y_Declaration_hasVariable, .code y_Declaration_hasVariable b_Declaration_hasVariable 3 (some .boolean), .methodLink "TemplateCaller$Declaration" 69 y_Declaration_hasCutList, .instanceMethod y_Declaration_hasCutList, .code y_Declaration_hasCutList b_Declaration_hasCutList 3 (some .boolean), .methodLink "TemplateCaller$Declaration" 104 y_PathTemplate_isCut, .instanceMethod y_PathTemplate_isCut, .selects "TemplateCaller$PathTemplate" y_PathTemplate_isCut y_PathTemplate_isCut, .code y_PathTemplate_isCut b_PathTemplate_isCut 2 (some .boolean), .methodLink "TemplateCaller$Declaration" 72 y_Declaration_countOf, .instanceMethod y_Declaration_countOf, .code y_Declaration_countOf b_Declaration_countOf 4 (some .int), .methodLink "TemplateCaller$Declaration" 76 y_Declaration_mayHaveContent, .instanceMethod y_Declaration_mayHaveContent, .selects "TemplateCaller$Declaration" y_Declaration_mayHaveContent y_Declaration_mayHaveContent, .code y_Declaration_mayHaveContent b_Declaration_mayHaveContent 1 (some .boolean), .methodLink "TemplateCallerLaw" 33 y_TC_item, .instanceMethod y_TC_item, .selects "TemplateCaller" y_TC_item y_TC_item, .code y_TC_item b_TC_item 3 (some .boolean), .methodLink "TemplateCaller" 72 y_Declaration_parameterAt, .instanceMethod y_Declaration_parameterAt, .selects "TemplateCaller$Declaration" y_Declaration_parameterAt y_Declaration_parameterAt, .code y_Declaration_parameterAt b_Declaration_parameterAt 2 (some (.object "TemplateCaller$Parameter")), .methodLink "TemplateCaller" 76 y_Parameter_addItem, .instanceMethod y_Parameter_addItem, .selects "TemplateCaller$Parameter" y_Parameter_addItem y_Parameter_addItem, .code y_Parameter_addItem b_Parameter_addItem 2 (some .boolean), .methodLink "TemplateCallerLaw" 37 y_TC_write, .instanceMethod y_TC_write, .selects "TemplateCaller" y_TC_write y_TC_write, .code y_TC_write b_TC_write 4 (some .boolean), .methodLink "TemplateCaller" 80 y_Parameter_addChar, .instanceMethod y_Parameter_addChar, .selects "TemplateCaller$Parameter" y_Parameter_addChar y_Parameter_addChar, .code y_Parameter_addChar b_Parameter_addChar 2 (some .boolean), .methodLink "TemplateCaller$Parameter" 30 y_Item_add, .instanceMethod y_Item_add, .selects "TemplateCaller$Item" y_Item_add y_Item_add, .code y_Item_add b_Item_add 2 (some .boolean), .methodLink "TemplateCallerLaw" 42 y_TC_empty, .instanceMethod y_TC_empty, .selects "TemplateCaller" y_TC_empty y_TC_empty, .code y_TC_empty b_TC_empty 3 (some .boolean), .methodLink "TemplateCaller" 83 y_Parameter_dropItems, .instanceMethod y_Parameter_dropItems, .selects "TemplateCaller$Parameter" y_Parameter_dropItems y_Parameter_dropItems, .code y_Parameter_dropItems b_Parameter_dropItems 1 none, .methodLink "TemplateCallerLaw" 46 y_TC_send, .instanceMethod y_TC_send, .selects "TemplateCaller" y_TC_send y_TC_send, .code y_TC_send b_TC_send 3 (some .int), .methodLink "TemplateCaller" 86 y_Declaration_argumentFault, .instanceMethod y_Declaration_argumentFault, .selects "TemplateCaller$Declaration" y_Declaration_argumentFault y_Declaration_argumentFault, .code y_Declaration_argumentFault b_Declaration_argumentFault 2 (some .int), .methodLink "TemplateCaller$Declaration" 79 y_Parameter_hasLone, .instanceMethod y_Parameter_hasLone, .selects "TemplateCaller$Parameter" y_Parameter_hasLone y_Parameter_hasLone, .code y_Parameter_hasLone b_Parameter_hasLone 2 (some .boolean), .methodLink "TemplateCaller$Parameter" 34 y_Item_hasLone, .instanceMethod y_Item_hasLone, .selects "TemplateCaller$Item" y_Item_hasLone y_Item_hasLone, .code y_Item_hasLone b_Item_hasLone 2 (some .boolean), .methodLink "TemplateCaller$Item" 20 y_Item_isPair, .instanceMethod y_Item_isPair, .selects "TemplateCaller$Item" y_Item_isPair y_Item_isPair, .code y_Item_isPair b_Item_isPair 2 (some .boolean), .constant "TemplateCaller$Item" 17 55296, .constant "TemplateCaller$Item" 18 56320, .constant "TemplateCaller$Item" 19 57343, .methodLink "TemplateCaller$Item" 24 y_Item_at, .instanceMethod y_Item_at, .selects "TemplateCaller$Item" y_Item_at y_Item_at, .code y_Item_at b_Item_at 2 (some .char), .methodLink "TemplateCaller$Declaration" 85 y_Parameter_fitsHeader, .instanceMethod y_Parameter_fitsHeader, .selects "TemplateCaller$Parameter" y_Parameter_fitsHeader y_Parameter_fitsHeader, .code y_Parameter_fitsHeader b_Parameter_fitsHeader 2 (some .boolean), .methodLink "TemplateCaller$Parameter" 38 y_Item_fitsHeader, .instanceMethod y_Item_fitsHeader, .selects "TemplateCaller$Item" y_Item_fitsHeader y_Item_fitsHeader, .code y_Item_fitsHeader b_Item_fitsHeader 2 (some .boolean), .methodLink "TemplateCaller" 89 y_RequestWriter_compose, .instanceMethod y_RequestWriter_compose, .selects "TemplateCaller$RequestWriter" y_RequestWriter_compose y_RequestWriter_compose, .code y_RequestWriter_compose b_RequestWriter_compose 2 none, .methodLink "TemplateCaller$RequestWriter" 33 y_Declaration_verbName, .instanceMethod y_Declaration_verbName, .selects "TemplateCaller$Declaration" y_Declaration_verbName y_Declaration_verbName, .code y_Declaration_verbName b_Declaration_verbName 1 (some (.object "java/lang/String")), .methodLink "TemplateCaller$RequestWriter" 37 y_ByteRow_putText, .instanceMethod y_ByteRow_putText, .selects "TemplateCaller$ByteRow" y_ByteRow_putText y_ByteRow_putText, .code y_ByteRow_putText b_ByteRow_putText 3 none, .methodLink "TemplateCaller$ByteRow" 17 y_String_length, .methodLink "TemplateCaller$ByteRow" 23 y_String_charAt, .instanceMethod y_String_charAt, .selects "java/lang/String" y_String_charAt y_String_charAt, .code y_String_charAt b_String_charAt 2 (some .char), .methodLink "java/lang/String" 495 y_StringLatin1_charAt, .static y_StringLatin1_charAt, .code y_StringLatin1_charAt b_StringLatin1_charAt 2 (some .char), .methodLink "java/lang/StringLatin1" 9 y_String_checkIndex, .static y_String_checkIndex, .code y_String_checkIndex b_String_checkIndex 2 none, .methodLink "java/lang/String" 1059 y_Preconditions_checkIndex, .static y_Preconditions_checkIndex, .code y_Preconditions_checkIndex b_Preconditions_checkIndex 3 (some .int), .methodLink "java/lang/StringUTF16" 414 y_String_checkIndex, .methodLink "TemplateCaller$ByteRow" 27 y_ByteRow_put, .instanceMethod y_ByteRow_put, .selects "TemplateCaller$ByteRow" y_ByteRow_put y_ByteRow_put, .code y_ByteRow_put b_ByteRow_put 2 none, .methodLink "TemplateCaller$RequestWriter" 41 y_ByteRow_put, .methodLink "TemplateCaller$RequestWriter" 44 y_RequestWriter_putExpanded, .instanceMethod y_RequestWriter_putExpanded, .code y_RequestWriter_putExpanded b_RequestWriter_putExpanded 8 none, .methodLink "TemplateCaller$RequestWriter" 73 y_PathTemplate_at, .methodLink "TemplateCaller$RequestWriter" 77 y_PathTemplate_operatorBehind, .instanceMethod y_PathTemplate_operatorBehind, .selects "TemplateCaller$PathTemplate" y_PathTemplate_operatorBehind y_PathTemplate_operatorBehind, .code y_PathTemplate_operatorBehind b_PathTemplate_operatorBehind 3 (some .char), .methodLink "TemplateCaller$RequestWriter" 80 y_Chars_isSmall, .methodLink "TemplateCaller$RequestWriter" 86 y_Declaration_parameterOf, .methodLink "TemplateCaller$RequestWriter" 95 y_RequestWriter_putStartOrBreak, .static y_RequestWriter_putStartOrBreak, .code y_RequestWriter_putStartOrBreak b_RequestWriter_putStartOrBreak 3 none, .methodLink "TemplateCaller$RequestWriter" 103 y_RequestWriter_breakOf, .static y_RequestWriter_breakOf, .code y_RequestWriter_breakOf b_RequestWriter_breakOf 1 (some .char), .methodLink "TemplateCaller$RequestWriter" 107 y_RequestWriter_startsWithItself, .static y_RequestWriter_startsWithItself, .code y_RequestWriter_startsWithItself b_RequestWriter_startsWithItself 1 (some .boolean), .methodLink "TemplateCaller$RequestWriter" 99 y_RequestWriter_putVariable, .instanceMethod y_RequestWriter_putVariable, .code y_RequestWriter_putVariable b_RequestWriter_putVariable 12 none, .methodLink "TemplateCaller$RequestWriter" 110 y_PathTemplate_isSpread, .instanceMethod y_PathTemplate_isSpread, .selects "TemplateCaller$PathTemplate" y_PathTemplate_isSpread y_PathTemplate_isSpread, .code y_PathTemplate_isSpread b_PathTemplate_isSpread 2 (some .boolean), .methodLink "TemplateCaller$RequestWriter" 116 y_PathTemplate_charactersFor, .instanceMethod y_PathTemplate_charactersFor, .selects "TemplateCaller$PathTemplate" y_PathTemplate_charactersFor y_PathTemplate_charactersFor, .code y_PathTemplate_charactersFor b_PathTemplate_charactersFor 2 (some .int), .methodLink "TemplateCaller$PathTemplate" 41 y_PathTemplate_isCut, .methodLink "TemplateCaller$RequestWriter" 131 y_Item_endOf, .instanceMethod y_Item_endOf, .selects "TemplateCaller$Item" y_Item_endOf y_Item_endOf, .code y_Item_endOf b_Item_endOf 4 (some .int), .methodLink "TemplateCaller$RequestWriter" 134 y_Encoder_putEncoded, .static y_Encoder_putEncoded, .code y_Encoder_putEncoded b_Encoder_putEncoded 6 none, .methodLink "TemplateCaller$Encoder" 7 y_Item_at, .methodLink "TemplateCaller$Encoder" 13 y_Chars_isUnreserved, .static y_Chars_isUnreserved, .code y_Chars_isUnreserved b_Chars_isUnreserved 1 (some .boolean), .methodLink "TemplateCaller$Encoder" 19 y_ByteRow_put, .methodLink "TemplateCaller$Encoder" 27 y_Chars_isLooseMark, .static y_Chars_isLooseMark, .code y_Chars_isLooseMark b_Chars_isLooseMark 1 (some .boolean), .methodLink "TemplateCaller$Encoder" 30 y_Item_isEscape, .instanceMethod y_Item_isEscape, .selects "TemplateCaller$Item" y_Item_isEscape y_Item_isEscape, .code y_Item_isEscape b_Item_isEscape 3 (some .boolean), .methodLink "TemplateCaller$Item" 29 y_Chars_hexValue, .static y_Chars_hexValue, .code y_Chars_hexValue b_Chars_hexValue 1 (some .int), .methodLink "TemplateCaller$Encoder" 34 y_Item_codeAt, .instanceMethod y_Item_codeAt, .selects "TemplateCaller$Item" y_Item_codeAt y_Item_codeAt, .code y_Item_codeAt b_Item_codeAt 2 (some .int), .constant "TemplateCaller$Item" 28 65536, .methodLink "TemplateCaller$Encoder" 38 y_Encoder_putEscaped, .static y_Encoder_putEscaped, .code y_Encoder_putEscaped b_Encoder_putEscaped 5 none, .methodLink "TemplateCaller$Encoder" 50 y_Encoder_utf8Count, .static y_Encoder_utf8Count, .code y_Encoder_utf8Count b_Encoder_utf8Count 1 (some .int), .constant "TemplateCaller$Encoder" 60 65536, .methodLink "TemplateCaller$Encoder" 53 y_Encoder_utf8Byte, .static y_Encoder_utf8Byte, .code y_Encoder_utf8Byte b_Encoder_utf8Byte 4 (some .int), .methodLink "TemplateCaller$Encoder" 57 y_Chars_hexDigit, .static y_Chars_hexDigit, .code y_Chars_hexDigit b_Chars_hexDigit 1 (some .int), .methodLink "TemplateCaller$Encoder" 42 y_Item_isPair, .methodLink "TemplateCaller$RequestWriter" 48 y_RequestWriter_putQuery, .instanceMethod y_RequestWriter_putQuery, .code y_RequestWriter_putQuery b_RequestWriter_putQuery 4 none, .methodLink "TemplateCaller$RequestWriter" 146 y_RequestWriter_putQueryItems, .static y_RequestWriter_putQueryItems, .code y_RequestWriter_putQueryItems b_RequestWriter_putQueryItems 4 none, .methodLink "TemplateCaller$RequestWriter" 150 y_ByteRow_has, .instanceMethod y_ByteRow_has, .selects "TemplateCaller$ByteRow" y_ByteRow_has y_ByteRow_has, .code y_ByteRow_has b_ByteRow_has 3 (some .boolean), .methodLink "TemplateCaller$RequestWriter" 53 y_RequestWriter_putHeaders, .instanceMethod y_RequestWriter_putHeaders, .code y_RequestWriter_putHeaders b_RequestWriter_putHeaders 4 none, .methodLink "TemplateCaller$RequestWriter" 153 y_RequestWriter_putHeader, .static y_RequestWriter_putHeader, .code y_RequestWriter_putHeader b_RequestWriter_putHeader 3 none, .methodLink "TemplateCaller$RequestWriter" 162 y_RequestWriter_putAscii, .static y_RequestWriter_putAscii, .code y_RequestWriter_putAscii b_RequestWriter_putAscii 3 none, .methodLink "TemplateCaller$RequestWriter" 166 y_Item_at, .methodLink "TemplateCaller$RequestWriter" 56 y_Declaration_mayHaveContent, .methodLink "TemplateCaller$RequestWriter" 60 y_RequestWriter_putBodyOrForm, .instanceMethod y_RequestWriter_putBodyOrForm, .code y_RequestWriter_putBodyOrForm b_RequestWriter_putBodyOrForm 5 none, .methodLink "TemplateCaller$RequestWriter" 167 y_Encoder_putUtf8, .static y_Encoder_putUtf8, .code y_Encoder_putUtf8 b_Encoder_putUtf8 6 none, .methodLink "TemplateCaller$RequestWriter" 170 y_RequestWriter_putFormItems, .static y_RequestWriter_putFormItems, .code y_RequestWriter_putFormItems b_RequestWriter_putFormItems 5 none, .methodLink "TemplateCaller$RequestWriter" 65 y_ByteRow_putNumber, .instanceMethod y_ByteRow_putNumber, .selects "TemplateCaller$ByteRow" y_ByteRow_putNumber y_ByteRow_putNumber, .code y_ByteRow_putNumber b_ByteRow_putNumber 3 none, .methodLink "TemplateCallerLaw" 50 y_TC_sent, .instanceMethod y_TC_sent, .selects "TemplateCaller" y_TC_sent y_TC_sent, .code y_TC_sent b_TC_sent 2 (some .int), .methodLink "TemplateCaller" 97 y_ByteRow_at, .instanceMethod y_ByteRow_at, .selects "TemplateCaller$ByteRow" y_ByteRow_at y_ByteRow_at, .code y_ByteRow_at b_ByteRow_at 2 (some .int), .methodLink "TemplateCallerLaw" 55 y_TC_feed, .instanceMethod y_TC_feed, .selects "TemplateCaller" y_TC_feed y_TC_feed, .code y_TC_feed b_TC_feed 2 (some .int), .methodLink "TemplateCaller" 104 y_Reader_take, .instanceMethod y_Reader_take, .selects "TemplateCaller$Reader" y_Reader_take y_Reader_take, .code y_Reader_take b_Reader_take 3 none, .methodLink "TemplateCaller$Reader" 57 y_Reader_takeCounted, .instanceMethod y_Reader_takeCounted, .code y_Reader_takeCounted b_Reader_takeCounted 2 none, .methodLink "TemplateCaller$Reader" 71 y_ByteRow_put, .methodLink "TemplateCaller$Reader" 60 y_Reader_takeUncounted, .instanceMethod y_Reader_takeUncounted, .code y_Reader_takeUncounted b_Reader_takeUncounted 2 none, .methodLink "TemplateCaller$Reader" 63 y_Reader_takeDue, .instanceMethod y_Reader_takeDue, .code y_Reader_takeDue b_Reader_takeDue 4 none, .methodLink "TemplateCaller$Reader" 67 y_Reader_takeOfLine, .instanceMethod y_Reader_takeOfLine, .code y_Reader_takeOfLine b_Reader_takeOfLine 4 none, .methodLink "TemplateCaller$Reader" 74 y_Line_add, .instanceMethod y_Line_add, .selects "TemplateCaller$Line" y_Line_add y_Line_add, .code y_Line_add b_Line_add 2 (some .int), .methodLink "TemplateCaller$Reader" 78 y_Reader_readLine, .instanceMethod y_Reader_readLine, .code y_Reader_readLine b_Reader_readLine 2 (some .boolean), .methodLink "TemplateCaller$Reader" 82 y_Head_readFirst, .instanceMethod y_Head_readFirst, .selects "TemplateCaller$Head" y_Head_readFirst y_Head_readFirst, .code y_Head_readFirst b_Head_readFirst 3 (some .boolean), .methodLink "TemplateCaller$Head" 31 y_Line_number, .instanceMethod y_Line_number, .selects "TemplateCaller$Line" y_Line_number y_Line_number, .code y_Line_number b_Line_number 5 (some .int), .methodLink "TemplateCaller$Line" 27 y_Line_at, .instanceMethod y_Line_at, .selects "TemplateCaller$Line" y_Line_at y_Line_at, .code y_Line_at b_Line_at 2 (some .char), .methodLink "TemplateCaller$Line" 47 y_Chars_isDigit, .static y_Chars_isDigit, .code y_Chars_isDigit b_Chars_isDigit 1 (some .boolean), .methodLink "TemplateCaller$Head" 39 y_Line_startsWith, .instanceMethod y_Line_startsWith, .selects "TemplateCaller$Line" y_Line_startsWith y_Line_startsWith, .code y_Line_startsWith b_Line_startsWith 3 (some .boolean), .methodLink "TemplateCaller$Line" 21 y_String_length, .methodLink "TemplateCaller$Line" 31 y_String_charAt, .methodLink "TemplateCaller$Head" 43 y_Line_at, .methodLink "TemplateCaller$Reader" 87 y_Reader_endHead, .instanceMethod y_Reader_endHead, .code y_Reader_endHead b_Reader_endHead 2 (some .boolean), .methodLink "TemplateCaller$Reader" 107 y_Head_isForgotten, .instanceMethod y_Head_isForgotten, .selects "TemplateCaller$Head" y_Head_isForgotten y_Head_isForgotten, .code y_Head_isForgotten b_Head_isForgotten 1 (some .boolean), .methodLink "TemplateCaller$Reader" 113 y_Head_hasNoContent, .instanceMethod y_Head_hasNoContent, .selects "TemplateCaller$Head" y_Head_hasNoContent y_Head_hasNoContent, .code y_Head_hasNoContent b_Head_hasNoContent 2 (some .boolean), .methodLink "TemplateCaller$Reader" 100 y_Reader_endContent, .instanceMethod y_Reader_endContent, .code y_Reader_endContent b_Reader_endContent 1 (some .boolean), .methodLink "TemplateCaller$Reader" 116 y_Reader_beginContent, .instanceMethod y_Reader_beginContent, .code y_Reader_beginContent b_Reader_beginContent 1 (some .boolean), .methodLink "TemplateCaller$Reader" 90 y_Head_readField, .instanceMethod y_Head_readField, .selects "TemplateCaller$Head" y_Head_readField y_Head_readField, .code y_Head_readField b_Head_readField 6 (some .boolean), .methodLink "TemplateCaller$Head" 47 y_Line_colonBehindName, .instanceMethod y_Line_colonBehindName, .selects "TemplateCaller$Line" y_Line_colonBehindName y_Line_colonBehindName, .code y_Line_colonBehindName b_Line_colonBehindName 2 (some .int), .methodLink "TemplateCaller$Line" 40 y_Chars_isLetterOrDigit, .methodLink "TemplateCaller$Head" 51 y_Line_skipBlanks, .instanceMethod y_Line_skipBlanks, .selects "TemplateCaller$Line" y_Line_skipBlanks y_Line_skipBlanks, .code y_Line_skipBlanks b_Line_skipBlanks 3 (some .int), .methodLink "TemplateCaller$Line" 44 y_Chars_isBlank, .static y_Chars_isBlank, .code y_Chars_isBlank b_Chars_isBlank 1 (some .boolean), .methodLink "TemplateCaller$Head" 55 y_Line_endWithoutBlanks, .instanceMethod y_Line_endWithoutBlanks, .selects "TemplateCaller$Line" y_Line_endWithoutBlanks y_Line_endWithoutBlanks, .code y_Line_endWithoutBlanks b_Line_endWithoutBlanks 3 (some .int), .methodLink "TemplateCaller$Head" 60 y_Line_isWord, .instanceMethod y_Line_isWord, .selects "TemplateCaller$Line" y_Line_isWord y_Line_isWord, .code y_Line_isWord b_Line_isWord 5 (some .boolean), .methodLink "TemplateCaller$Line" 34 y_Chars_toSmall, .static y_Chars_toSmall, .code y_Chars_toSmall b_Chars_toSmall 1 (some .char), .methodLink "TemplateCaller$Head" 64 y_Head_setContentLength, .instanceMethod y_Head_setContentLength, .code y_Head_setContentLength b_Head_setContentLength 2 (some .boolean), .methodLink "TemplateCaller$Head" 71 y_Head_setChunked, .instanceMethod y_Head_setChunked, .code y_Head_setChunked b_Head_setChunked 1 (some .boolean), .methodLink "TemplateCaller$Reader" 93 y_Line_chunkSize, .instanceMethod y_Line_chunkSize, .selects "TemplateCaller$Line" y_Line_chunkSize y_Line_chunkSize, .code y_Line_chunkSize b_Line_chunkSize 4 (some .int), .methodLink "TemplateCaller$Line" 50 y_Chars_hexValue, .methodLink "TemplateCaller$Reader" 97 y_Reader_beginChunk, .instanceMethod y_Reader_beginChunk, .code y_Reader_beginChunk b_Reader_beginChunk 2 (some .boolean), .methodLink "TemplateCaller$Reader" 104 y_Head_readTrailing, .instanceMethod y_Head_readTrailing, .selects "TemplateCaller$Head" y_Head_readTrailing y_Head_readTrailing, .code y_Head_readTrailing b_Head_readTrailing 3 (some .boolean), .methodLink "TemplateCallerLaw" 59 y_TC_close, .instanceMethod y_TC_close, .selects "TemplateCaller" y_TC_close y_TC_close, .code y_TC_close b_TC_close 1 (some .int), .methodLink "TemplateCaller" 111 y_Reader_end, .instanceMethod y_Reader_end, .selects "TemplateCaller$Reader" y_Reader_end y_Reader_end, .code y_Reader_end b_Reader_end 1 none, .methodLink "TemplateCallerLaw" 63 y_TC_reset, .instanceMethod y_TC_reset, .selects "TemplateCaller" y_TC_reset y_TC_reset, .code y_TC_reset b_TC_reset 1 none, .methodLink "TemplateCaller" 114 y_Reader_restart, .methodLink "TemplateCallerLaw" 67 y_TC_state, .instanceMethod y_TC_state, .selects "TemplateCaller" y_TC_state y_TC_state, .code y_TC_state b_TC_state 1 (some .int), .methodLink "TemplateCallerLaw" 71 y_TC_status, .instanceMethod y_TC_status, .selects "TemplateCaller" y_TC_status y_TC_status, .code y_TC_status b_TC_status 1 (some .int), .methodLink "TemplateCallerLaw" 75 y_TC_fields, .instanceMethod y_TC_fields, .selects "TemplateCaller" y_TC_fields y_TC_fields, .code y_TC_fields b_TC_fields 1 (some .int), .methodLink "TemplateCallerLaw" 79 y_TC_length, .instanceMethod y_TC_length, .selects "TemplateCaller" y_TC_length y_TC_length, .code y_TC_length b_TC_length 1 (some .int), .methodLink "TemplateCallerLaw" 83 y_TC_content, .instanceMethod y_TC_content, .selects "TemplateCaller" y_TC_content y_TC_content, .code y_TC_content b_TC_content 2 (some .int), .classLink "TemplateCallerLaw" 10 "TemplateCallerModel", .instantiable "TemplateCallerModel" 31, .methodLink "TemplateCallerLaw" 12 y_Mo_init, .instanceMethod y_Mo_init, .code y_Mo_init b_Mo_init 1 none, .methodLink "TemplateCallerModel" 1 objectInit, .fieldLink "TemplateCallerModel" 46 "TemplateCallerModel" "verb" "I", .fieldLink "TemplateCallerModel" 50 "TemplateCallerModel" "size" "I", .fieldLink "TemplateCallerModel" 7 "TemplateCallerModel" "text" "[I", .fieldLink "TemplateCallerModel" 53 "TemplateCallerModel" "count" "I", .fieldLink "TemplateCallerModel" 13 "TemplateCallerModel" "kind" "[I", .fieldLink "TemplateCallerModel" 16 "TemplateCallerModel" "letter" "[I", .fieldLink "TemplateCallerModel" 19 "TemplateCallerModel" "items" "[I", .fieldLink "TemplateCallerModel" 22 "TemplateCallerModel" "length" "[I", .fieldLink "TemplateCallerModel" 25 "TemplateCallerModel" "chars" "[I", .fieldLink "TemplateCallerModel" 228 "TemplateCallerModel" "made" "I", .fieldLink "TemplateCallerModel" 28 "TemplateCallerModel" "request" "[I", .fieldLink "TemplateCallerModel" 134 "TemplateCallerModel" "outSize" "I", .fieldLink "TemplateCallerModel" 31 "TemplateCallerModel" "out" "[I", .fieldLink "TemplateCallerModel" 137 "TemplateCallerModel" "asked" "Z", .fieldLink "TemplateCallerModel" 127 "TemplateCallerModel" "aside" "Z", .fieldLink "TemplateCallerModel" 131 "TemplateCallerModel" "bodySize" "I", .fieldLink "TemplateCallerModel" 34 "TemplateCallerModel" "body" "[I", .fieldLink "TemplateCallerModel" 234 "TemplateCallerModel" "fed" "I", .fieldLink "TemplateCallerModel" 37 "TemplateCallerModel" "bytes" "[I", .fieldLink "TemplateCallerModel" 40 "TemplateCallerModel" "verbs" "[I", .fieldLink "TemplateCallerModel" 313 "TemplateCallerModel" "closed" "Z", .fieldLink "TemplateCallerModel" 231 "TemplateCallerModel" "at" "I", .fieldLink "TemplateCallerModel" 237 "TemplateCallerModel" "lineEnd" "I", .fieldLink "TemplateCallerModel" 292 "TemplateCallerModel" "phase" "I", .fieldLink "TemplateCallerModel" 286 "TemplateCallerModel" "code" "I", .fieldLink "TemplateCallerModel" 276 "TemplateCallerModel" "lines" "I", .fieldLink "TemplateCallerModel" 289 "TemplateCallerModel" "got" "I", .fieldLink "TemplateCallerModel" 43 "TemplateCallerModel" "matter" "[I", .fieldLink "TemplateCallerModel" 264 "TemplateCallerModel" "sized" "I", .fieldLink "TemplateCallerModel" 261 "TemplateCallerModel" "chunked" "Z", .fieldLink "TemplateCallerModel" 304 "TemplateCallerModel" "open" "Z", .lays "TemplateCallerModel" "TemplateCallerModel" "verb" "I", .lays "TemplateCallerModel" "TemplateCallerModel" "size" "I", .laysFinal "TemplateCallerModel" "TemplateCallerModel" "text" "[I", .lays "TemplateCallerModel" "TemplateCallerModel" "count" "I", .laysFinal "TemplateCallerModel" "TemplateCallerModel" "kind" "[I", .laysFinal "TemplateCallerModel" "TemplateCallerModel" "letter" "[I", .laysFinal "TemplateCallerModel" "TemplateCallerModel" "items" "[I", .laysFinal "TemplateCallerModel" "TemplateCallerModel" "length" "[I", .laysFinal "TemplateCallerModel" "TemplateCallerModel" "chars" "[I", .lays "TemplateCallerModel" "TemplateCallerModel" "made" "I", .laysFinal "TemplateCallerModel" "TemplateCallerModel" "request" "[I", .lays "TemplateCallerModel" "TemplateCallerModel" "outSize" "I", .laysFinal "TemplateCallerModel" "TemplateCallerModel" "out" "[I", .lays "TemplateCallerModel" "TemplateCallerModel" "asked" "Z", .lays "TemplateCallerModel" "TemplateCallerModel" "aside" "Z", .lays "TemplateCallerModel" "TemplateCallerModel" "bodySize" "I", .laysFinal "TemplateCallerModel" "TemplateCallerModel" "body" "[I", .lays "TemplateCallerModel" "TemplateCallerModel" "fed" "I", .laysFinal "TemplateCallerModel" "TemplateCallerModel" "bytes" "[I", .laysFinal "TemplateCallerModel" "TemplateCallerModel" "verbs" "[I", .lays "TemplateCallerModel" "TemplateCallerModel" "closed" "Z", .lays "TemplateCallerModel" "TemplateCallerModel" "at" "I", .lays "TemplateCallerModel" "TemplateCallerModel" "lineEnd" "I", .lays "TemplateCallerModel" "TemplateCallerModel" "phase" "I", .lays "TemplateCallerModel" "TemplateCallerModel" "code" "I", .lays "TemplateCallerModel" "TemplateCallerModel" "lines" "I", .lays "TemplateCallerModel" "TemplateCallerModel" "got" "I", .laysFinal "TemplateCallerModel" "TemplateCallerModel" "matter" "[I", .lays "TemplateCallerModel" "TemplateCallerModel" "sized" "I", .lays "TemplateCallerModel" "TemplateCallerModel" "chunked" "Z", .lays "TemplateCallerModel" "TemplateCallerModel" "open" "Z", .arrayClass .int, .methodLink "TemplateCallerLaw" 17 y_Mo_declare, .instanceMethod y_Mo_declare, .selects "TemplateCallerModel" y_Mo_declare y_Mo_declare, .code y_Mo_declare b_Mo_declare 2 (some .boolean), .methodLink "TemplateCallerLaw" 22 y_Mo_template, .instanceMethod y_Mo_template, .selects "TemplateCallerModel" y_Mo_template y_Mo_template, .code y_Mo_template b_Mo_template 2 (some .boolean), .methodLink "TemplateCallerLaw" 27 y_Mo_parameter, .instanceMethod y_Mo_parameter, .selects "TemplateCallerModel" y_Mo_parameter y_Mo_parameter, .code y_Mo_parameter b_Mo_parameter 3 (some .int), .methodLink "TemplateCallerLaw" 36 y_Mo_item, .instanceMethod y_Mo_item, .selects "TemplateCallerModel" y_Mo_item y_Mo_item, .code y_Mo_item b_Mo_item 3 (some .boolean), .methodLink "TemplateCallerModel" 56 y_Mo_isParameter, .instanceMethod y_Mo_isParameter, .code y_Mo_isParameter b_Mo_isParameter 2 (some .boolean), .methodLink "TemplateCallerLaw" 41 y_Mo_write, .instanceMethod y_Mo_write, .selects "TemplateCallerModel" y_Mo_write y_Mo_write, .code y_Mo_write b_Mo_write 4 (some .boolean), .methodLink "TemplateCallerLaw" 45 y_Mo_empty, .instanceMethod y_Mo_empty, .selects "TemplateCallerModel" y_Mo_empty y_Mo_empty, .code y_Mo_empty b_Mo_empty 2 (some .boolean), .methodLink "TemplateCallerLaw" 32 y_Mo_check, .instanceMethod y_Mo_check, .selects "TemplateCallerModel" y_Mo_check y_Mo_check, .code y_Mo_check b_Mo_check 3 (some .int), .methodLink "TemplateCallerModel" 88 y_Mo_wellFormed, .instanceMethod y_Mo_wellFormed, .code y_Mo_wellFormed b_Mo_wellFormed 3 (some .boolean), .methodLink "TemplateCallerModel" 76 y_Mo_behind, .instanceMethod y_Mo_behind, .code y_Mo_behind b_Mo_behind 4 (some .int), .methodLink "TemplateCallerModel" 69 y_Mo_character, .instanceMethod y_Mo_character, .code y_Mo_character b_Mo_character 2 (some .int), .methodLink "TemplateCallerModel" 73 y_Mo_operator, .static y_Mo_operator, .code y_Mo_operator b_Mo_operator 1 (some .boolean), .methodLink "TemplateCallerModel" 60 y_Mo_small, .static y_Mo_small, .code y_Mo_small b_Mo_small 1 (some .boolean), .methodLink "TemplateCallerModel" 79 y_Mo_plain, .static y_Mo_plain, .code y_Mo_plain b_Mo_plain 1 (some .boolean), .methodLink "TemplateCallerModel" 66 y_Mo_letterOrDigit, .static y_Mo_letterOrDigit, .code y_Mo_letterOrDigit b_Mo_letterOrDigit 1 (some .boolean), .methodLink "TemplateCallerModel" 63 y_Mo_digit, .static y_Mo_digit, .code y_Mo_digit b_Mo_digit 1 (some .boolean), .methodLink "TemplateCallerModel" 92 y_Mo_unknown, .instanceMethod y_Mo_unknown, .code y_Mo_unknown b_Mo_unknown 3 (some .boolean), .methodLink "TemplateCallerModel" 82 y_Mo_variableAt, .instanceMethod y_Mo_variableAt, .code y_Mo_variableAt b_Mo_variableAt 4 (some .boolean), .methodLink "TemplateCallerModel" 85 y_Mo_named, .instanceMethod y_Mo_named, .code y_Mo_named b_Mo_named 4 (some .int), .methodLink "TemplateCallerModel" 95 y_Mo_twice, .instanceMethod y_Mo_twice, .code y_Mo_twice b_Mo_twice 3 (some .boolean), .methodLink "TemplateCallerModel" 98 y_Mo_unused, .instanceMethod y_Mo_unused, .code y_Mo_unused b_Mo_unused 5 (some .boolean), .methodLink "TemplateCallerModel" 101 y_Mo_cutList, .instanceMethod y_Mo_cutList, .code y_Mo_cutList b_Mo_cutList 4 (some .boolean), .methodLink "TemplateCallerModel" 104 y_Mo_kinds, .instanceMethod y_Mo_kinds, .code y_Mo_kinds b_Mo_kinds 4 (some .int), .methodLink "TemplateCallerLaw" 49 y_Mo_send, .instanceMethod y_Mo_send, .selects "TemplateCallerModel" y_Mo_send y_Mo_send, .code y_Mo_send b_Mo_send 3 (some .int), .methodLink "TemplateCallerModel" 191 y_Mo_check, .methodLink "TemplateCallerModel" 195 y_Mo_itemFault, .instanceMethod y_Mo_itemFault, .code y_Mo_itemFault b_Mo_itemFault 5 (some .int), .methodLink "TemplateCallerModel" 121 y_Mo_loneIn, .instanceMethod y_Mo_loneIn, .code y_Mo_loneIn b_Mo_loneIn 5 (some .boolean), .methodLink "TemplateCallerModel" 111 y_Mo_high, .static y_Mo_high, .code y_Mo_high b_Mo_high 1 (some .boolean), .constant "TemplateCallerModel" 107 55296, .constant "TemplateCallerModel" 108 56319, .methodLink "TemplateCallerModel" 117 y_Mo_pair, .instanceMethod y_Mo_pair, .code y_Mo_pair b_Mo_pair 3 (some .boolean), .methodLink "TemplateCallerModel" 114 y_Mo_low, .static y_Mo_low, .code y_Mo_low b_Mo_low 1 (some .boolean), .constant "TemplateCallerModel" 109 56320, .constant "TemplateCallerModel" 110 57343, .methodLink "TemplateCallerModel" 124 y_Mo_unfitIn, .instanceMethod y_Mo_unfitIn, .code y_Mo_unfitIn b_Mo_unfitIn 6 (some .boolean), .methodLink "TemplateCallerModel" 198 y_Mo_compose, .instanceMethod y_Mo_compose, .code y_Mo_compose b_Mo_compose 3 none, .methodLink "TemplateCallerModel" 164 y_Mo_encode, .instanceMethod y_Mo_encode, .code y_Mo_encode b_Mo_encode 8 none, .methodLink "TemplateCallerModel" 155 y_Mo_hex, .static y_Mo_hex, .code y_Mo_hex b_Mo_hex 1 (some .boolean), .constant "TemplateCallerModel" 153 65536, .methodLink "TemplateCallerModel" 158 y_Mo_utf, .instanceMethod y_Mo_utf, .code y_Mo_utf b_Mo_utf 3 none, .methodLink "TemplateCallerModel" 149 y_Mo_single, .instanceMethod y_Mo_single, .code y_Mo_single b_Mo_single 3 none, .methodLink "TemplateCallerModel" 142 y_Mo_put, .instanceMethod y_Mo_put, .code y_Mo_put b_Mo_put 2 none, .methodLink "TemplateCallerModel" 146 y_Mo_hexadecimal, .instanceMethod y_Mo_hexadecimal, .code y_Mo_hexadecimal b_Mo_hexadecimal 2 none, .constant "TemplateCallerModel" 154 262144, .methodLink "TemplateCallerModel" 161 y_Mo_loose, .static y_Mo_loose, .code y_Mo_loose b_Mo_loose 1 (some .boolean), .constantLong "TemplateCallerModel" 201 5522759, .constantLong "TemplateCallerModel" 203 1145128264, .constantLong "TemplateCallerModel" 205 1414745936, .constantLong "TemplateCallerModel" 207 5526864, .constantLong "TemplateCallerModel" 209 76228242195780, .methodLink "TemplateCallerModel" 180 y_Mo_spell, .instanceMethod y_Mo_spell, .code y_Mo_spell b_Mo_spell 5 none, .constantLong "TemplateCallerModel" 140 255, .methodLink "TemplateCallerModel" 211 y_Mo_target, .instanceMethod y_Mo_target, .code y_Mo_target b_Mo_target 4 none, .methodLink "TemplateCallerModel" 175 y_Mo_expression, .instanceMethod y_Mo_expression, .code y_Mo_expression b_Mo_expression 10 none, .methodLink "TemplateCallerModel" 168 y_Mo_between, .instanceMethod y_Mo_between, .code y_Mo_between b_Mo_between 2 none, .methodLink "TemplateCallerModel" 171 y_Mo_give, .instanceMethod y_Mo_give, .code y_Mo_give b_Mo_give 8 none, .constantLong "TemplateCallerModel" 214 3543824036068086856, .methodLink "TemplateCallerModel" 188 y_Mo_end, .instanceMethod y_Mo_end, .code y_Mo_end b_Mo_end 1 none, .constantLong "TemplateCallerModel" 216 29308833011822440, .methodLink "TemplateCallerModel" 218 y_Mo_headers, .instanceMethod y_Mo_headers, .code y_Mo_headers b_Mo_headers 3 none, .constantLong "TemplateCallerModel" 178 11640, .constantLong "TemplateCallerModel" 184 8250, .constantLong "TemplateCallerModel" 186 8236, .constantLong "TemplateCallerModel" 221 3275364211029340003, .constantLong "TemplateCallerModel" 223 2322283407023695212, .methodLink "TemplateCallerModel" 225 y_Mo_number, .instanceMethod y_Mo_number, .code y_Mo_number b_Mo_number 3 none, .methodLink "TemplateCallerLaw" 54 y_Mo_sent, .instanceMethod y_Mo_sent, .selects "TemplateCallerModel" y_Mo_sent y_Mo_sent, .code y_Mo_sent b_Mo_sent 2 (some .int), .methodLink "TemplateCallerLaw" 58 y_Mo_feed, .instanceMethod y_Mo_feed, .selects "TemplateCallerModel" y_Mo_feed y_Mo_feed, .code y_Mo_feed b_Mo_feed 2 (some .int), .methodLink "TemplateCallerModel" 316 y_Mo_work, .instanceMethod y_Mo_work, .code y_Mo_work b_Mo_work 3 none, .methodLink "TemplateCallerModel" 307 y_Mo_head, .instanceMethod y_Mo_head, .code y_Mo_head b_Mo_head 3 (some .int), .methodLink "TemplateCallerModel" 269 y_Mo_line, .instanceMethod y_Mo_line, .code y_Mo_line b_Mo_line 3 (some .int), .methodLink "TemplateCallerModel" 279 y_Mo_statusLine, .instanceMethod y_Mo_statusLine, .code y_Mo_statusLine b_Mo_statusLine 5 (some .int), .constantLong "TemplateCallerModel" 243 825110831, .methodLink "TemplateCallerModel" 245 y_Mo_spelt, .instanceMethod y_Mo_spelt, .code y_Mo_spelt b_Mo_spelt 14 (some .boolean), .methodLink "TemplateCallerModel" 240 y_Mo_lower, .static y_Mo_lower, .code y_Mo_lower b_Mo_lower 1 (some .int), .methodLink "TemplateCallerModel" 282 y_Mo_fieldLines, .instanceMethod y_Mo_fieldLines, .code y_Mo_fieldLines b_Mo_fieldLines 4 (some .int), .methodLink "TemplateCallerModel" 272 y_Mo_fieldLine, .instanceMethod y_Mo_fieldLine, .code y_Mo_fieldLine b_Mo_fieldLine 8 (some .boolean), .constantLong "TemplateCallerModel" 249 114849160783212, .constantLong "TemplateCallerModel" 251 8243107338930713204, .constantLong "TemplateCallerModel" 253 7956000646299018541, .constantLong "TemplateCallerModel" 255 103, .methodLink "TemplateCallerModel" 257 y_Mo_counted, .instanceMethod y_Mo_counted, .code y_Mo_counted b_Mo_counted 6 (some .int), .constantLong "TemplateCallerModel" 267 28259009760159843, .methodLink "TemplateCallerModel" 310 y_Mo_after, .instanceMethod y_Mo_after, .code y_Mo_after b_Mo_after 2 none, .methodLink "TemplateCallerModel" 301 y_Mo_chunks, .instanceMethod y_Mo_chunks, .code y_Mo_chunks b_Mo_chunks 5 none, .methodLink "TemplateCallerModel" 295 y_Mo_chunkSize, .instanceMethod y_Mo_chunkSize, .code y_Mo_chunkSize b_Mo_chunkSize 4 (some .int), .methodLink "TemplateCallerModel" 298 y_Mo_take, .instanceMethod y_Mo_take, .code y_Mo_take b_Mo_take 3 (some .boolean), .methodLink "TemplateCallerLaw" 62 y_Mo_close, .instanceMethod y_Mo_close, .selects "TemplateCallerModel" y_Mo_close y_Mo_close, .code y_Mo_close b_Mo_close 1 (some .int), .methodLink "TemplateCallerLaw" 66 y_Mo_reset, .instanceMethod y_Mo_reset, .selects "TemplateCallerModel" y_Mo_reset y_Mo_reset, .code y_Mo_reset b_Mo_reset 1 none, .methodLink "TemplateCallerLaw" 70 y_Mo_state, .instanceMethod y_Mo_state, .selects "TemplateCallerModel" y_Mo_state y_Mo_state, .code y_Mo_state b_Mo_state 1 (some .int), .methodLink "TemplateCallerLaw" 74 y_Mo_status, .instanceMethod y_Mo_status, .selects "TemplateCallerModel" y_Mo_status y_Mo_status, .code y_Mo_status b_Mo_status 1 (some .int), .methodLink "TemplateCallerLaw" 78 y_Mo_fields, .instanceMethod y_Mo_fields, .selects "TemplateCallerModel" y_Mo_fields y_Mo_fields, .code y_Mo_fields b_Mo_fields 1 (some .int), .methodLink "TemplateCallerLaw" 82 y_Mo_length, .instanceMethod y_Mo_length, .selects "TemplateCallerModel" y_Mo_length y_Mo_length, .code y_Mo_length b_Mo_length 1 (some .int), .methodLink "TemplateCallerLaw" 86 y_Mo_content, .instanceMethod y_Mo_content, .selects "TemplateCallerModel" y_Mo_content y_Mo_content, .code y_Mo_content b_Mo_content 2 (some .int), .fieldLink "java/lang/String" 15 "java/lang/String" "coder" "B", .fieldLink "java/lang/String" 9 "java/lang/String" "value" "[B", .selects "TemplateCallerModel" y_Mo_isParameter y_Mo_isParameter, .selects "TemplateCallerModel" y_Mo_character y_Mo_character, .selects "TemplateCallerModel" y_Mo_behind y_Mo_behind, .selects "TemplateCallerModel" y_Mo_wellFormed y_Mo_wellFormed, .selects "TemplateCallerModel" y_Mo_variableAt y_Mo_variableAt, .selects "TemplateCallerModel" y_Mo_named y_Mo_named, .selects "TemplateCallerModel" y_Mo_kinds y_Mo_kinds, .selects "TemplateCallerModel" y_Mo_unknown y_Mo_unknown, .selects "TemplateCallerModel" y_Mo_twice y_Mo_twice, .selects "TemplateCallerModel" y_Mo_unused y_Mo_unused, .selects "TemplateCallerModel" y_Mo_cutList y_Mo_cutList, .selects "TemplateCallerModel" y_Mo_pair y_Mo_pair, .selects "TemplateCallerModel" y_Mo_loneIn y_Mo_loneIn, .selects "TemplateCallerModel" y_Mo_unfitIn y_Mo_unfitIn, .selects "TemplateCallerModel" y_Mo_itemFault y_Mo_itemFault, .selects "TemplateCallerModel" y_Mo_put y_Mo_put, .selects "TemplateCallerModel" y_Mo_spell y_Mo_spell, .selects "TemplateCallerModel" y_Mo_number y_Mo_number, .selects "TemplateCallerModel" y_Mo_end y_Mo_end, .selects "TemplateCallerModel" y_Mo_hexadecimal y_Mo_hexadecimal, .selects "TemplateCallerModel" y_Mo_single y_Mo_single, .selects "TemplateCallerModel" y_Mo_utf y_Mo_utf, .selects "TemplateCallerModel" y_Mo_encode y_Mo_encode, .selects "TemplateCallerModel" y_Mo_give y_Mo_give, .selects "TemplateCallerModel" y_Mo_between y_Mo_between, .selects "TemplateCallerModel" y_Mo_expression y_Mo_expression, .selects "TemplateCallerModel" y_Mo_target y_Mo_target, .selects "TemplateCallerModel" y_Mo_compose y_Mo_compose, .selects "TemplateCallerModel" y_Mo_headers y_Mo_headers, .selects "TemplateCallerModel" y_Mo_line y_Mo_line, .selects "TemplateCallerModel" y_Mo_spelt y_Mo_spelt, .selects "TemplateCallerModel" y_Mo_statusLine y_Mo_statusLine, .selects "TemplateCallerModel" y_Mo_counted y_Mo_counted, .selects "TemplateCallerModel" y_Mo_fieldLine y_Mo_fieldLine, .selects "TemplateCallerModel" y_Mo_fieldLines y_Mo_fieldLines, .selects "TemplateCallerModel" y_Mo_head y_Mo_head, .selects "TemplateCallerModel" y_Mo_take y_Mo_take, .selects "TemplateCallerModel" y_Mo_chunkSize y_Mo_chunkSize, .selects "TemplateCallerModel" y_Mo_chunks y_Mo_chunks, .selects "TemplateCallerModel" y_Mo_after y_Mo_after, .selects "TemplateCallerModel" y_Mo_work y_Mo_work, .selects "TemplateCaller$Declaration" y_Declaration_hasUnknownVariable y_Declaration_hasUnknownVariable, .selects "TemplateCaller$Declaration" y_Declaration_hasLetterTwice y_Declaration_hasLetterTwice, .selects "TemplateCaller$Declaration" y_Declaration_hasUnusedParameter y_Declaration_hasUnusedParameter, .selects "TemplateCaller$Declaration" y_Declaration_hasVariable y_Declaration_hasVariable, .selects "TemplateCaller$Declaration" y_Declaration_hasCutList y_Declaration_hasCutList, .selects "TemplateCaller$Declaration" y_Declaration_countOf y_Declaration_countOf, .selects "TemplateCaller$Head" y_Head_setContentLength y_Head_setContentLength, .selects "TemplateCaller$Head" y_Head_setChunked y_Head_setChunked, .selects "TemplateCaller$Reader" y_Reader_takeCounted y_Reader_takeCounted, .selects "TemplateCaller$Reader" y_Reader_takeUncounted y_Reader_takeUncounted, .selects "TemplateCaller$Reader" y_Reader_takeDue y_Reader_takeDue, .selects "TemplateCaller$Reader" y_Reader_takeOfLine y_Reader_takeOfLine, .selects "TemplateCaller$Reader" y_Reader_readLine y_Reader_readLine, .selects "TemplateCaller$Reader" y_Reader_endHead y_Reader_endHead, .selects "TemplateCaller$Reader" y_Reader_beginContent y_Reader_beginContent, .selects "TemplateCaller$Reader" y_Reader_beginChunk y_Reader_beginChunk, .selects "TemplateCaller$Reader" y_Reader_endContent y_Reader_endContent, .selects "TemplateCaller$RequestWriter" y_RequestWriter_putExpanded y_RequestWriter_putExpanded, .selects "TemplateCaller$RequestWriter" y_RequestWriter_putVariable y_RequestWriter_putVariable, .selects "TemplateCaller$RequestWriter" y_RequestWriter_putQuery y_RequestWriter_putQuery, .selects "TemplateCaller$RequestWriter" y_RequestWriter_putHeaders y_RequestWriter_putHeaders, .selects "TemplateCaller$RequestWriter" y_RequestWriter_putBodyOrForm y_RequestWriter_putBodyOrForm]
theorem WS_all : WS.all goodWord = true := by decide +kernel
theorem WS_good (w : Cond) (h : w ∈ WS) : (w.onTables && w.keeps) = true ∨ ∃ ty, w = .arrayClass ty := good_of_word (List.all_eq_true.mp WS_all w h)
def NF : List (String × Nat × String × String × String × String) := [("TemplateCaller$Declaration", 32, "TemplateCaller$PathTemplate", "size", "I", "TemplateCaller"), ("TemplateCaller$RequestWriter", 72, "TemplateCaller$PathTemplate", "size", "I", "TemplateCaller"), ("TemplateCaller$Encoder", 46, "TemplateCaller$Item", "size", "I", "TemplateCaller"), ("TemplateCaller$Parameter", 27, "TemplateCaller$Item", "size", "I", "TemplateCaller"), ("TemplateCaller$RequestWriter", 128, "TemplateCaller$Item", "size", "I", "TemplateCaller"), ("TemplateCaller$RequestWriter", 120, "TemplateCaller$Parameter", "items", "[LTemplateCaller$Item;", "TemplateCaller"), ("TemplateCaller$RequestWriter", 90, "TemplateCaller$Parameter", "count", "I", "TemplateCaller"), ("TemplateCaller$RequestWriter", 143, "TemplateCaller$Parameter", "kind", "I", "TemplateCaller"), ("TemplateCaller$Declaration", 82, "TemplateCaller$Parameter", "kind", "I", "TemplateCaller"), ("TemplateCaller$Declaration", 53, "TemplateCaller$Parameter", "letter", "C", "TemplateCaller"), ("TemplateCaller$RequestWriter", 124, "TemplateCaller$Parameter", "letter", "C", "TemplateCaller"), ("TemplateCaller$RequestWriter", 22, "TemplateCaller$Declaration", "path", "LTemplateCaller$PathTemplate;", "TemplateCaller"), ("TemplateCaller", 47, "TemplateCaller$Declaration", "path", "LTemplateCaller$PathTemplate;", "TemplateCaller"), ("TemplateCaller$RequestWriter", 139, "TemplateCaller$Declaration", "parameters", "[LTemplateCaller$Parameter;", "TemplateCaller"), ("TemplateCaller$RequestWriter", 138, "TemplateCaller$Declaration", "count", "I", "TemplateCaller"), ("TemplateCaller", 101, "TemplateCaller$Declaration", "verb", "I", "TemplateCaller"), ("TemplateCaller$RequestWriter", 29, "TemplateCaller$ByteRow", "size", "I", "TemplateCaller"), ("TemplateCaller$Reader", 41, "TemplateCaller$ByteRow", "size", "I", "TemplateCaller"), ("TemplateCaller", 93, "TemplateCaller$ByteRow", "size", "I", "TemplateCaller"), ("TemplateCaller$Reader", 86, "TemplateCaller$Line", "size", "I", "TemplateCaller"), ("TemplateCaller$Reader", 110, "TemplateCaller$Head", "statusCode", "I", "TemplateCaller"), ("TemplateCaller", 124, "TemplateCaller$Head", "fieldLines", "I", "TemplateCaller"), ("TemplateCaller$Reader", 119, "TemplateCaller$Head", "contentLength", "I", "TemplateCaller"), ("TemplateCaller$Reader", 122, "TemplateCaller$Head", "chunked", "Z", "TemplateCaller"), ("TemplateCaller", 120, "TemplateCaller$Reader", "head", "LTemplateCaller$Head;", "TemplateCaller"), ("TemplateCaller", 129, "TemplateCaller$Reader", "body", "LTemplateCaller$ByteRow;", "TemplateCaller"), ("TemplateCaller", 108, "TemplateCaller$Reader", "state", "I", "TemplateCaller"), ("TemplateCaller", 117, "TemplateCaller$Reader", "endedStatus", "I", "TemplateCaller")]
def NM : List (String × Nat × MethodName × String) := [("TemplateCaller$Declaration", 11, y_PathTemplate_init, "TemplateCaller"), ("TemplateCaller$Parameter", 26, y_Item_init, "TemplateCaller"), ("TemplateCaller$Reader", 11, y_Line_init, "TemplateCaller")]
def LT : List (String × Nat × String × Nat) := [("TemplateCaller$Chars", 21, "-._~/?=&", 0), ("TemplateCaller$Chars", 23, "+./;?&", 1), ("TemplateCaller$Declaration", 35, "HEAD", 2), ("TemplateCaller$Declaration", 37, "POST", 3), ("TemplateCaller$Declaration", 39, "PUT", 4), ("TemplateCaller$Declaration", 41, "DELETE", 5), ("TemplateCaller$Declaration", 43, "GET", 6), ("TemplateCaller$Chars", 13, "-._~", 7), ("TemplateCaller$Chars", 25, ":/?@!$&'()*+,;=", 8), ("TemplateCaller$RequestWriter", 51, " HTTP/1.1\r\nhost: h\r\n", 9), ("TemplateCaller$RequestWriter", 156, "x-", 10), ("TemplateCaller$RequestWriter", 158, ": ", 11), ("TemplateCaller$RequestWriter", 160, ", ", 12), ("TemplateCaller$RequestWriter", 68, "\r\n", 13), ("TemplateCaller$RequestWriter", 63, "content-length: ", 14), ("TemplateCaller$Head", 37, "HTTP/1.1 ", 15), ("TemplateCaller$Head", 58, "content-length", 16), ("TemplateCaller$Head", 68, "transfer-encoding", 17), ("TemplateCaller$Head", 70, "chunked", 18)]
abbrev nS : Nat := 19
def lenS : List Nat := [8, 6, 4, 4, 3, 6, 3, 4, 15, 20, 2, 2, 2, 2, 16, 9, 14, 17, 7]
def bytS : List (List Int32) := [[45, 46, 95, 126, 47, 63, 61, 38], [43, 46, 47, 59, 63, 38], [72, 69, 65, 68], [80, 79, 83, 84], [80, 85, 84], [68, 69, 76, 69, 84, 69], [71, 69, 84], [45, 46, 95, 126], [58, 47, 63, 64, 33, 36, 38, 39, 40, 41, 42, 43, 44, 59, 61], [32, 72, 84, 84, 80, 47, 49, 46, 49, 13, 10, 104, 111, 115, 116, 58, 32, 104, 13, 10], [120, 45], [58, 32], [44, 32], [13, 10], [99, 111, 110, 116, 101, 110, 116, 45, 108, 101, 110, 103, 116, 104, 58, 32], [72, 84, 84, 80, 47, 49, 46, 49, 32], [99, 111, 110, 116, 101, 110, 116, 45, 108, 101, 110, 103, 116, 104], [116, 114, 97, 110, 115, 102, 101, 114, 45, 101, 110, 99, 111, 100, 105, 110, 103], [99, 104, 117, 110, 107, 101, 100]]
def ZS : List (String × String × String × Int32) := [("java/lang/String", "COMPACT_STRINGS", "Z", 1)]
abbrev nC : Nat := 79
abbrev bl (x : Nat) : Nat := if x < 2 then 1000 else if x = 2 then 0 else 120
def sh (i : Nat) : (Nat × Nat) ⊕ (Nat × Nat × (Nat → Nat)) ⊕ (Nat × List (Option Nat)) :=
  if i < 10 then (match i with
    | 0 => .inr (.inr (0, [some 1, some 5, some 6, some 1000, some 1000]))
    | 1 => .inr (.inr (1, [some 2, some 4, none, none]))
    | 2 => .inr (.inr (2, [some 3, none]))
    | 3 => .inl (1, 40)
    | 4 => .inr (.inl (3, 6, fun j => 10 + j))
    | 5 => .inr (.inr (3, [some 1, some 2, some 60]))
    | 6 => .inr (.inr (4, [some 7, some 9, some 61, none, none, none, none]))
    | 7 => .inr (.inr (5, [some 8, none, none]))
    | 8 => .inl (1, 60)
    | _ => .inr (.inr (6, [none, none, none, none, none])))
  else if i < 16 then .inr (.inr (7, [some (i + 6), none, none, none]))
  else if i < 22 then .inr (.inl (4, 3, fun j => 22 + (3 * (i - 16) + j)))
  else if i < 40 then .inr (.inr (8, [some (i + 18), none]))
  else if i < 58 then .inl (1, 8)
  else if i < 62 then .inr (.inr (9, [some (i + 4), none]))
  else if i < 66 then .inl (2, bl (i - 62))
  else (match i with
    | 66 => .inr (.inr (10, [none, none, some 67, none, some 68, some 69, some 70, some 71, some 72, none, some 73, none, some 74, none, none, none, some 75, none, some 76, some 77, none, none, none, none, none, none, none, some 78, none, none, none]))
    | 67 => .inl (0, 40)
    | 68 => .inl (0, 6)
    | 69 => .inl (0, 6)
    | 70 => .inl (0, 6)
    | 71 => .inl (0, 18)
    | 72 => .inl (0, 144)
    | 73 => .inl (0, 1000)
    | 74 => .inl (0, 1000)
    | 75 => .inl (0, 1400)
    | 76 => .inl (0, 520)
    | 77 => .inl (0, 520)
    | _ => .inl (0, 120))
theorem wz_TC : Cond.initialized "TemplateCaller" ∈ WS := List.mem_of_getElem? (i := 1) rfl
theorem wz_Declaration : Cond.initialized "TemplateCaller$Declaration" ∈ WS := List.mem_of_getElem? (i := 2) rfl
theorem wz_PathTemplate : Cond.initialized "TemplateCaller$PathTemplate" ∈ WS := List.mem_of_getElem? (i := 3) rfl
theorem wz_Parameter : Cond.initialized "TemplateCaller$Parameter" ∈ WS := List.mem_of_getElem? (i := 4) rfl
theorem wz_Item : Cond.initialized "TemplateCaller$Item" ∈ WS := List.mem_of_getElem? (i := 5) rfl
theorem wz_RequestWriter : Cond.initialized "TemplateCaller$RequestWriter" ∈ WS := List.mem_of_getElem? (i := 6) rfl
theorem wz_ByteRow : Cond.initialized "TemplateCaller$ByteRow" ∈ WS := List.mem_of_getElem? (i := 7) rfl
theorem wz_Reader : Cond.initialized "TemplateCaller$Reader" ∈ WS := List.mem_of_getElem? (i := 8) rfl
theorem wz_Line : Cond.initialized "TemplateCaller$Line" ∈ WS := List.mem_of_getElem? (i := 9) rfl
theorem wz_Head : Cond.initialized "TemplateCaller$Head" ∈ WS := List.mem_of_getElem? (i := 10) rfl
theorem wz_Mo : Cond.initialized "TemplateCallerModel" ∈ WS := List.mem_of_getElem? (i := 11) rfl
theorem wz_Chars : Cond.initialized "TemplateCaller$Chars" ∈ WS := List.mem_of_getElem? (i := 12) rfl
theorem wz_String : Cond.initialized "java/lang/String" ∈ WS := List.mem_of_getElem? (i := 13) rfl
theorem wz_StringLatin1 : Cond.initialized "java/lang/StringLatin1" ∈ WS := List.mem_of_getElem? (i := 14) rfl
theorem wz_Math : Cond.initialized "java/lang/Math" ∈ WS := List.mem_of_getElem? (i := 15) rfl
theorem wz_Preconditions : Cond.initialized "jdk/internal/util/Preconditions" ∈ WS := List.mem_of_getElem? (i := 17) rfl
theorem wz_Encoder : Cond.initialized "TemplateCaller$Encoder" ∈ WS := List.mem_of_getElem? (i := 19) rfl
theorem wl_c_Law_7 : Cond.classLink "TemplateCallerLaw" 7 "TemplateCaller" ∈ WS := List.mem_of_getElem? (i := 20) rfl
theorem win_TC : Cond.instantiable "TemplateCaller" 5 ∈ WS := List.mem_of_getElem? (i := 21) rfl
theorem wm_Law_9 : Cond.methodLink "TemplateCallerLaw" 9 y_TC_init ∈ WS := List.mem_of_getElem? (i := 22) rfl
theorem wc_TC_init : Cond.code y_TC_init b_TC_init 1 none ∈ WS := List.mem_of_getElem? (i := 24) rfl
theorem wm_TC_1 : Cond.methodLink "TemplateCaller" 1 objectInit ∈ WS := List.mem_of_getElem? (i := 25) rfl
theorem wi_Obj : Cond.instanceMethod objectInit ∈ WS := List.mem_of_getElem? (i := 26) rfl
theorem wc_Obj : Cond.code objectInit ⟨#[0xb1]⟩ 1 none ∈ WS := List.mem_of_getElem? (i := 27) rfl
theorem wl_c_TC_7 : Cond.classLink "TemplateCaller" 7 "TemplateCaller$Declaration" ∈ WS := List.mem_of_getElem? (i := 28) rfl
theorem win_Declaration : Cond.instantiable "TemplateCaller$Declaration" 4 ∈ WS := List.mem_of_getElem? (i := 29) rfl
theorem wm_TC_9 : Cond.methodLink "TemplateCaller" 9 y_Declaration_init ∈ WS := List.mem_of_getElem? (i := 30) rfl
theorem wc_Declaration_init : Cond.code y_Declaration_init b_Declaration_init 2 none ∈ WS := List.mem_of_getElem? (i := 32) rfl
theorem wm_Declaration_3 : Cond.methodLink "TemplateCaller$Declaration" 3 objectInit ∈ WS := List.mem_of_getElem? (i := 33) rfl
theorem wl_c_Declaration_9 : Cond.classLink "TemplateCaller$Declaration" 9 "TemplateCaller$PathTemplate" ∈ WS := List.mem_of_getElem? (i := 34) rfl
theorem win_PathTemplate : Cond.instantiable "TemplateCaller$PathTemplate" 2 ∈ WS := List.mem_of_getElem? (i := 35) rfl
theorem wc_PathTemplate_init : Cond.code y_PathTemplate_init b_PathTemplate_init 1 none ∈ WS := List.mem_of_getElem? (i := 37) rfl
theorem wm_PathTemplate_1 : Cond.methodLink "TemplateCaller$PathTemplate" 1 objectInit ∈ WS := List.mem_of_getElem? (i := 38) rfl
theorem wf_PathTemplate_9 : Cond.fieldLink "TemplateCaller$PathTemplate" 9 "TemplateCaller$PathTemplate" "text" "[C" ∈ WS := List.mem_of_getElem? (i := 39) rfl
theorem wf_PathTemplate_13 : Cond.fieldLink "TemplateCaller$PathTemplate" 13 "TemplateCaller$PathTemplate" "size" "I" ∈ WS := List.mem_of_getElem? (i := 40) rfl
theorem wa_char : Cond.arrayClass .char ∈ WS := List.mem_of_getElem? (i := 43) rfl
theorem wl_c_Declaration_18 : Cond.classLink "TemplateCaller$Declaration" 18 "TemplateCaller$Parameter" ∈ WS := List.mem_of_getElem? (i := 44) rfl
theorem win_Parameter : Cond.instantiable "TemplateCaller$Parameter" 4 ∈ WS := List.mem_of_getElem? (i := 45) rfl
theorem wm_Declaration_31 : Cond.methodLink "TemplateCaller$Declaration" 31 y_Parameter_init ∈ WS := List.mem_of_getElem? (i := 46) rfl
theorem wc_Parameter_init : Cond.code y_Parameter_init b_Parameter_init 2 none ∈ WS := List.mem_of_getElem? (i := 48) rfl
theorem wm_Parameter_1 : Cond.methodLink "TemplateCaller$Parameter" 1 objectInit ∈ WS := List.mem_of_getElem? (i := 49) rfl
theorem wl_c_Parameter_9 : Cond.classLink "TemplateCaller$Parameter" 9 "TemplateCaller$Item" ∈ WS := List.mem_of_getElem? (i := 50) rfl
theorem win_Item : Cond.instantiable "TemplateCaller$Item" 2 ∈ WS := List.mem_of_getElem? (i := 51) rfl
theorem wc_Item_init : Cond.code y_Item_init b_Item_init 1 none ∈ WS := List.mem_of_getElem? (i := 53) rfl
theorem wm_Item_1 : Cond.methodLink "TemplateCaller$Item" 1 objectInit ∈ WS := List.mem_of_getElem? (i := 54) rfl
theorem wf_Item_9 : Cond.fieldLink "TemplateCaller$Item" 9 "TemplateCaller$Item" "chars" "[C" ∈ WS := List.mem_of_getElem? (i := 55) rfl
theorem wf_Item_13 : Cond.fieldLink "TemplateCaller$Item" 13 "TemplateCaller$Item" "size" "I" ∈ WS := List.mem_of_getElem? (i := 56) rfl
theorem wf_Parameter_11 : Cond.fieldLink "TemplateCaller$Parameter" 11 "TemplateCaller$Parameter" "items" "[LTemplateCaller$Item;" ∈ WS := List.mem_of_getElem? (i := 59) rfl
theorem wf_Parameter_15 : Cond.fieldLink "TemplateCaller$Parameter" 15 "TemplateCaller$Parameter" "count" "I" ∈ WS := List.mem_of_getElem? (i := 60) rfl
theorem wf_Parameter_19 : Cond.fieldLink "TemplateCaller$Parameter" 19 "TemplateCaller$Parameter" "kind" "I" ∈ WS := List.mem_of_getElem? (i := 61) rfl
theorem wf_Parameter_22 : Cond.fieldLink "TemplateCaller$Parameter" 22 "TemplateCaller$Parameter" "letter" "C" ∈ WS := List.mem_of_getElem? (i := 62) rfl
theorem wf_Declaration_12 : Cond.fieldLink "TemplateCaller$Declaration" 12 "TemplateCaller$Declaration" "path" "LTemplateCaller$PathTemplate;" ∈ WS := List.mem_of_getElem? (i := 67) rfl
theorem wf_Declaration_20 : Cond.fieldLink "TemplateCaller$Declaration" 20 "TemplateCaller$Declaration" "parameters" "[LTemplateCaller$Parameter;" ∈ WS := List.mem_of_getElem? (i := 68) rfl
theorem wf_Declaration_24 : Cond.fieldLink "TemplateCaller$Declaration" 24 "TemplateCaller$Declaration" "count" "I" ∈ WS := List.mem_of_getElem? (i := 69) rfl
theorem wf_Declaration_28 : Cond.fieldLink "TemplateCaller$Declaration" 28 "TemplateCaller$Declaration" "verb" "I" ∈ WS := List.mem_of_getElem? (i := 70) rfl
theorem wl_c_TC_16 : Cond.classLink "TemplateCaller" 16 "TemplateCaller$RequestWriter" ∈ WS := List.mem_of_getElem? (i := 75) rfl
theorem win_RequestWriter : Cond.instantiable "TemplateCaller$RequestWriter" 3 ∈ WS := List.mem_of_getElem? (i := 76) rfl
theorem wm_TC_18 : Cond.methodLink "TemplateCaller" 18 y_RequestWriter_init ∈ WS := List.mem_of_getElem? (i := 77) rfl
theorem wc_RequestWriter_init : Cond.code y_RequestWriter_init b_RequestWriter_init 2 none ∈ WS := List.mem_of_getElem? (i := 79) rfl
theorem wm_RequestWriter_1 : Cond.methodLink "TemplateCaller$RequestWriter" 1 objectInit ∈ WS := List.mem_of_getElem? (i := 80) rfl
theorem wl_c_RequestWriter_7 : Cond.classLink "TemplateCaller$RequestWriter" 7 "TemplateCaller$ByteRow" ∈ WS := List.mem_of_getElem? (i := 81) rfl
theorem win_ByteRow : Cond.instantiable "TemplateCaller$ByteRow" 2 ∈ WS := List.mem_of_getElem? (i := 82) rfl
theorem wm_RequestWriter_9 : Cond.methodLink "TemplateCaller$RequestWriter" 9 y_ByteRow_init ∈ WS := List.mem_of_getElem? (i := 83) rfl
theorem wc_ByteRow_init : Cond.code y_ByteRow_init b_ByteRow_init 2 none ∈ WS := List.mem_of_getElem? (i := 85) rfl
theorem wm_ByteRow_1 : Cond.methodLink "TemplateCaller$ByteRow" 1 objectInit ∈ WS := List.mem_of_getElem? (i := 86) rfl
theorem wf_ByteRow_13 : Cond.fieldLink "TemplateCaller$ByteRow" 13 "TemplateCaller$ByteRow" "bytes" "[B" ∈ WS := List.mem_of_getElem? (i := 87) rfl
theorem wf_ByteRow_7 : Cond.fieldLink "TemplateCaller$ByteRow" 7 "TemplateCaller$ByteRow" "size" "I" ∈ WS := List.mem_of_getElem? (i := 88) rfl
theorem wa_byte : Cond.arrayClass .byte ∈ WS := List.mem_of_getElem? (i := 91) rfl
theorem wf_RequestWriter_18 : Cond.fieldLink "TemplateCaller$RequestWriter" 18 "TemplateCaller$RequestWriter" "declaration" "LTemplateCaller$Declaration;" ∈ WS := List.mem_of_getElem? (i := 92) rfl
theorem wf_RequestWriter_28 : Cond.fieldLink "TemplateCaller$RequestWriter" 28 "TemplateCaller$RequestWriter" "path" "LTemplateCaller$PathTemplate;" ∈ WS := List.mem_of_getElem? (i := 93) rfl
theorem wf_RequestWriter_12 : Cond.fieldLink "TemplateCaller$RequestWriter" 12 "TemplateCaller$RequestWriter" "counter" "LTemplateCaller$ByteRow;" ∈ WS := List.mem_of_getElem? (i := 94) rfl
theorem wl_c_TC_25 : Cond.classLink "TemplateCaller" 25 "TemplateCaller$Reader" ∈ WS := List.mem_of_getElem? (i := 98) rfl
theorem win_Reader : Cond.instantiable "TemplateCaller$Reader" 7 ∈ WS := List.mem_of_getElem? (i := 99) rfl
theorem wm_TC_27 : Cond.methodLink "TemplateCaller" 27 y_Reader_init ∈ WS := List.mem_of_getElem? (i := 100) rfl
theorem wc_Reader_init : Cond.code y_Reader_init b_Reader_init 1 none ∈ WS := List.mem_of_getElem? (i := 102) rfl
theorem wm_Reader_3 : Cond.methodLink "TemplateCaller$Reader" 3 objectInit ∈ WS := List.mem_of_getElem? (i := 103) rfl
theorem wl_c_Reader_9 : Cond.classLink "TemplateCaller$Reader" 9 "TemplateCaller$Line" ∈ WS := List.mem_of_getElem? (i := 104) rfl
theorem win_Line : Cond.instantiable "TemplateCaller$Line" 3 ∈ WS := List.mem_of_getElem? (i := 105) rfl
theorem wc_Line_init : Cond.code y_Line_init b_Line_init 1 none ∈ WS := List.mem_of_getElem? (i := 107) rfl
theorem wm_Line_1 : Cond.methodLink "TemplateCaller$Line" 1 objectInit ∈ WS := List.mem_of_getElem? (i := 108) rfl
theorem wf_Line_9 : Cond.fieldLink "TemplateCaller$Line" 9 "TemplateCaller$Line" "text" "[C" ∈ WS := List.mem_of_getElem? (i := 109) rfl
theorem wf_Line_13 : Cond.fieldLink "TemplateCaller$Line" 13 "TemplateCaller$Line" "size" "I" ∈ WS := List.mem_of_getElem? (i := 110) rfl
theorem wf_Line_17 : Cond.fieldLink "TemplateCaller$Line" 17 "TemplateCaller$Line" "returned" "Z" ∈ WS := List.mem_of_getElem? (i := 111) rfl
theorem wl_c_Reader_18 : Cond.classLink "TemplateCaller$Reader" 18 "TemplateCaller$Head" ∈ WS := List.mem_of_getElem? (i := 115) rfl
theorem win_Head : Cond.instantiable "TemplateCaller$Head" 5 ∈ WS := List.mem_of_getElem? (i := 116) rfl
theorem wm_Reader_20 : Cond.methodLink "TemplateCaller$Reader" 20 y_Head_init ∈ WS := List.mem_of_getElem? (i := 117) rfl
theorem wc_Head_init : Cond.code y_Head_init b_Head_init 1 none ∈ WS := List.mem_of_getElem? (i := 119) rfl
theorem wm_Head_1 : Cond.methodLink "TemplateCaller$Head" 1 objectInit ∈ WS := List.mem_of_getElem? (i := 120) rfl
theorem wm_Head_7 : Cond.methodLink "TemplateCaller$Head" 7 y_Head_clear ∈ WS := List.mem_of_getElem? (i := 121) rfl
theorem wc_Head_clear : Cond.code y_Head_clear b_Head_clear 1 none ∈ WS := List.mem_of_getElem? (i := 124) rfl
theorem wf_Head_12 : Cond.fieldLink "TemplateCaller$Head" 12 "TemplateCaller$Head" "statusCode" "I" ∈ WS := List.mem_of_getElem? (i := 125) rfl
theorem wf_Head_16 : Cond.fieldLink "TemplateCaller$Head" 16 "TemplateCaller$Head" "fieldLines" "I" ∈ WS := List.mem_of_getElem? (i := 126) rfl
theorem wf_Head_19 : Cond.fieldLink "TemplateCaller$Head" 19 "TemplateCaller$Head" "trailingLines" "I" ∈ WS := List.mem_of_getElem? (i := 127) rfl
theorem wf_Head_22 : Cond.fieldLink "TemplateCaller$Head" 22 "TemplateCaller$Head" "contentLength" "I" ∈ WS := List.mem_of_getElem? (i := 128) rfl
theorem wf_Head_25 : Cond.fieldLink "TemplateCaller$Head" 25 "TemplateCaller$Head" "chunked" "Z" ∈ WS := List.mem_of_getElem? (i := 129) rfl
theorem wl_c_Reader_25 : Cond.classLink "TemplateCaller$Reader" 25 "TemplateCaller$ByteRow" ∈ WS := List.mem_of_getElem? (i := 135) rfl
theorem wm_Reader_27 : Cond.methodLink "TemplateCaller$Reader" 27 y_ByteRow_init ∈ WS := List.mem_of_getElem? (i := 136) rfl
theorem wm_Reader_34 : Cond.methodLink "TemplateCaller$Reader" 34 y_Reader_restart ∈ WS := List.mem_of_getElem? (i := 137) rfl
theorem wc_Reader_restart : Cond.code y_Reader_restart b_Reader_restart 1 none ∈ WS := List.mem_of_getElem? (i := 140) rfl
theorem wm_Reader_37 : Cond.methodLink "TemplateCaller$Reader" 37 y_Line_clear ∈ WS := List.mem_of_getElem? (i := 141) rfl
theorem wc_Line_clear : Cond.code y_Line_clear b_Line_clear 1 none ∈ WS := List.mem_of_getElem? (i := 144) rfl
theorem wm_Reader_40 : Cond.methodLink "TemplateCaller$Reader" 40 y_Head_clear ∈ WS := List.mem_of_getElem? (i := 145) rfl
theorem wf_Reader_12 : Cond.fieldLink "TemplateCaller$Reader" 12 "TemplateCaller$Reader" "line" "LTemplateCaller$Line;" ∈ WS := List.mem_of_getElem? (i := 146) rfl
theorem wf_Reader_21 : Cond.fieldLink "TemplateCaller$Reader" 21 "TemplateCaller$Reader" "head" "LTemplateCaller$Head;" ∈ WS := List.mem_of_getElem? (i := 147) rfl
theorem wf_Reader_30 : Cond.fieldLink "TemplateCaller$Reader" 30 "TemplateCaller$Reader" "body" "LTemplateCaller$ByteRow;" ∈ WS := List.mem_of_getElem? (i := 148) rfl
theorem wf_Reader_45 : Cond.fieldLink "TemplateCaller$Reader" 45 "TemplateCaller$Reader" "state" "I" ∈ WS := List.mem_of_getElem? (i := 149) rfl
theorem wf_Reader_48 : Cond.fieldLink "TemplateCaller$Reader" 48 "TemplateCaller$Reader" "place" "I" ∈ WS := List.mem_of_getElem? (i := 150) rfl
theorem wf_Reader_51 : Cond.fieldLink "TemplateCaller$Reader" 51 "TemplateCaller$Reader" "endedStatus" "I" ∈ WS := List.mem_of_getElem? (i := 151) rfl
theorem wf_Reader_54 : Cond.fieldLink "TemplateCaller$Reader" 54 "TemplateCaller$Reader" "bytesLeft" "I" ∈ WS := List.mem_of_getElem? (i := 152) rfl
theorem wl_c_TC_32 : Cond.classLink "TemplateCaller" 32 "TemplateCaller$ByteRow" ∈ WS := List.mem_of_getElem? (i := 160) rfl
theorem wm_TC_34 : Cond.methodLink "TemplateCaller" 34 y_ByteRow_init ∈ WS := List.mem_of_getElem? (i := 161) rfl
theorem wf_TC_10 : Cond.fieldLink "TemplateCaller" 10 "TemplateCaller" "declaration" "LTemplateCaller$Declaration;" ∈ WS := List.mem_of_getElem? (i := 162) rfl
theorem wf_TC_21 : Cond.fieldLink "TemplateCaller" 21 "TemplateCaller" "writer" "LTemplateCaller$RequestWriter;" ∈ WS := List.mem_of_getElem? (i := 163) rfl
theorem wf_TC_28 : Cond.fieldLink "TemplateCaller" 28 "TemplateCaller" "reader" "LTemplateCaller$Reader;" ∈ WS := List.mem_of_getElem? (i := 164) rfl
theorem wf_TC_37 : Cond.fieldLink "TemplateCaller" 37 "TemplateCaller" "made" "LTemplateCaller$ByteRow;" ∈ WS := List.mem_of_getElem? (i := 165) rfl
theorem wf_TC_41 : Cond.fieldLink "TemplateCaller" 41 "TemplateCaller" "spare" "LTemplateCaller$ByteRow;" ∈ WS := List.mem_of_getElem? (i := 166) rfl
theorem wm_Law_13 : Cond.methodLink "TemplateCallerLaw" 13 y_TC_declare ∈ WS := List.mem_of_getElem? (i := 172) rfl
theorem wc_TC_declare : Cond.code y_TC_declare b_TC_declare 2 (some .boolean) ∈ WS := List.mem_of_getElem? (i := 175) rfl
theorem wm_TC_44 : Cond.methodLink "TemplateCaller" 44 y_Declaration_begin ∈ WS := List.mem_of_getElem? (i := 176) rfl
theorem wc_Declaration_begin : Cond.code y_Declaration_begin b_Declaration_begin 2 none ∈ WS := List.mem_of_getElem? (i := 179) rfl
theorem wm_Law_18 : Cond.methodLink "TemplateCallerLaw" 18 y_TC_template ∈ WS := List.mem_of_getElem? (i := 180) rfl
theorem wc_TC_template : Cond.code y_TC_template b_TC_template 2 (some .boolean) ∈ WS := List.mem_of_getElem? (i := 183) rfl
theorem wm_TC_51 : Cond.methodLink "TemplateCaller" 51 y_PathTemplate_add ∈ WS := List.mem_of_getElem? (i := 184) rfl
theorem wc_PathTemplate_add : Cond.code y_PathTemplate_add b_PathTemplate_add 2 (some .boolean) ∈ WS := List.mem_of_getElem? (i := 187) rfl
theorem wm_Law_23 : Cond.methodLink "TemplateCallerLaw" 23 y_TC_parameter ∈ WS := List.mem_of_getElem? (i := 188) rfl
theorem wc_TC_parameter : Cond.code y_TC_parameter b_TC_parameter 3 (some .int) ∈ WS := List.mem_of_getElem? (i := 191) rfl
theorem wm_TC_59 : Cond.methodLink "TemplateCaller" 59 y_Chars_isSmall ∈ WS := List.mem_of_getElem? (i := 192) rfl
theorem wc_Chars_isSmall : Cond.code y_Chars_isSmall b_Chars_isSmall 1 (some .boolean) ∈ WS := List.mem_of_getElem? (i := 194) rfl
theorem wm_TC_64 : Cond.methodLink "TemplateCaller" 64 y_Declaration_addParameter ∈ WS := List.mem_of_getElem? (i := 195) rfl
theorem wc_Declaration_addParameter : Cond.code y_Declaration_addParameter b_Declaration_addParameter 3 (some .int) ∈ WS := List.mem_of_getElem? (i := 198) rfl
theorem wm_Declaration_45 : Cond.methodLink "TemplateCaller$Declaration" 45 y_Parameter_begin ∈ WS := List.mem_of_getElem? (i := 199) rfl
theorem wc_Parameter_begin : Cond.code y_Parameter_begin b_Parameter_begin 3 none ∈ WS := List.mem_of_getElem? (i := 202) rfl
theorem wm_Law_28 : Cond.methodLink "TemplateCallerLaw" 28 y_TC_check ∈ WS := List.mem_of_getElem? (i := 203) rfl
theorem wc_TC_check : Cond.code y_TC_check b_TC_check 1 (some .int) ∈ WS := List.mem_of_getElem? (i := 206) rfl
theorem wm_TC_68 : Cond.methodLink "TemplateCaller" 68 y_Declaration_fault ∈ WS := List.mem_of_getElem? (i := 207) rfl
theorem wc_Declaration_fault : Cond.code y_Declaration_fault b_Declaration_fault 3 (some .int) ∈ WS := List.mem_of_getElem? (i := 210) rfl
theorem wm_Declaration_57 : Cond.methodLink "TemplateCaller$Declaration" 57 y_PathTemplate_isWellFormed ∈ WS := List.mem_of_getElem? (i := 211) rfl
theorem wc_PathTemplate_isWellFormed : Cond.code y_PathTemplate_isWellFormed b_PathTemplate_isWellFormed 3 (some .boolean) ∈ WS := List.mem_of_getElem? (i := 214) rfl
theorem wm_PathTemplate_17 : Cond.methodLink "TemplateCaller$PathTemplate" 17 y_PathTemplate_at ∈ WS := List.mem_of_getElem? (i := 215) rfl
theorem wc_PathTemplate_at : Cond.code y_PathTemplate_at b_PathTemplate_at 2 (some .char) ∈ WS := List.mem_of_getElem? (i := 218) rfl
theorem wm_PathTemplate_21 : Cond.methodLink "TemplateCaller$PathTemplate" 21 y_PathTemplate_placeBehind ∈ WS := List.mem_of_getElem? (i := 219) rfl
theorem wc_PathTemplate_placeBehind : Cond.code y_PathTemplate_placeBehind b_PathTemplate_placeBehind 2 (some .int) ∈ WS := List.mem_of_getElem? (i := 221) rfl
theorem wm_PathTemplate_25 : Cond.methodLink "TemplateCaller$PathTemplate" 25 y_Chars_isLiteral ∈ WS := List.mem_of_getElem? (i := 222) rfl
theorem wc_Chars_isLiteral : Cond.code y_Chars_isLiteral b_Chars_isLiteral 1 (some .boolean) ∈ WS := List.mem_of_getElem? (i := 224) rfl
theorem wm_Chars_7 : Cond.methodLink "TemplateCaller$Chars" 7 y_Chars_isLetterOrDigit ∈ WS := List.mem_of_getElem? (i := 225) rfl
theorem wc_Chars_isLetterOrDigit : Cond.code y_Chars_isLetterOrDigit b_Chars_isLetterOrDigit 1 (some .boolean) ∈ WS := List.mem_of_getElem? (i := 227) rfl
theorem wm_Chars_15 : Cond.methodLink "TemplateCaller$Chars" 15 y_String_indexOf ∈ WS := List.mem_of_getElem? (i := 228) rfl
theorem wc_String_indexOf : Cond.code y_String_indexOf b_String_indexOf 2 (some .int) ∈ WS := List.mem_of_getElem? (i := 231) rfl
theorem wm_String_633 : Cond.methodLink "java/lang/String" 633 y_String_indexOf2 ∈ WS := List.mem_of_getElem? (i := 232) rfl
theorem wc_String_indexOf2 : Cond.code y_String_indexOf2 b_String_indexOf2 3 (some .int) ∈ WS := List.mem_of_getElem? (i := 235) rfl
theorem wm_String_492 : Cond.methodLink "java/lang/String" 492 y_String_isLatin1 ∈ WS := List.mem_of_getElem? (i := 236) rfl
theorem wc_String_isLatin1 : Cond.code y_String_isLatin1 b_String_isLatin1 1 (some .boolean) ∈ WS := List.mem_of_getElem? (i := 239) rfl
theorem wf_String_38 : Cond.fieldLink "java/lang/String" 38 "java/lang/String" "COMPACT_STRINGS" "Z" ∈ WS := List.mem_of_getElem? (i := 240) rfl
theorem wm_String_505 : Cond.methodLink "java/lang/String" 505 y_String_length ∈ WS := List.mem_of_getElem? (i := 241) rfl
theorem wc_String_length : Cond.code y_String_length b_String_length 1 (some .int) ∈ WS := List.mem_of_getElem? (i := 244) rfl
theorem wm_String_335 : Cond.methodLink "java/lang/String" 335 y_String_coder ∈ WS := List.mem_of_getElem? (i := 245) rfl
theorem wc_String_coder : Cond.code y_String_coder b_String_coder 1 (some .byte) ∈ WS := List.mem_of_getElem? (i := 248) rfl
theorem wm_String_637 : Cond.methodLink "java/lang/String" 637 y_StringLatin1_indexOf ∈ WS := List.mem_of_getElem? (i := 249) rfl
theorem wc_StringLatin1_indexOf : Cond.code y_StringLatin1_indexOf b_StringLatin1_indexOf 4 (some .int) ∈ WS := List.mem_of_getElem? (i := 251) rfl
theorem wm_StringLatin1_88 : Cond.methodLink "java/lang/StringLatin1" 88 y_StringLatin1_canEncode ∈ WS := List.mem_of_getElem? (i := 252) rfl
theorem wc_StringLatin1_canEncode : Cond.code y_StringLatin1_canEncode b_StringLatin1_canEncode 1 (some .boolean) ∈ WS := List.mem_of_getElem? (i := 254) rfl
theorem wm_StringLatin1_92 : Cond.methodLink "java/lang/StringLatin1" 92 y_Math_max ∈ WS := List.mem_of_getElem? (i := 255) rfl
theorem wc_Math_max : Cond.code y_Math_max b_Math_max 2 (some .int) ∈ WS := List.mem_of_getElem? (i := 257) rfl
theorem wm_StringLatin1_38 : Cond.methodLink "java/lang/StringLatin1" 38 y_Math_min ∈ WS := List.mem_of_getElem? (i := 258) rfl
theorem wc_Math_min : Cond.code y_Math_min b_Math_min 2 (some .int) ∈ WS := List.mem_of_getElem? (i := 260) rfl
theorem wm_StringLatin1_95 : Cond.methodLink "java/lang/StringLatin1" 95 y_StringLatin1_indexOfChar ∈ WS := List.mem_of_getElem? (i := 261) rfl
theorem wc_StringLatin1_indexOfChar : Cond.code y_StringLatin1_indexOfChar b_StringLatin1_indexOfChar 6 (some .int) ∈ WS := List.mem_of_getElem? (i := 263) rfl
theorem wm_StringUTF16_224 : Cond.methodLink "java/lang/StringUTF16" 224 y_Math_max ∈ WS := List.mem_of_getElem? (i := 264) rfl
theorem wm_StringUTF16_183 : Cond.methodLink "java/lang/StringUTF16" 183 y_Math_min ∈ WS := List.mem_of_getElem? (i := 265) rfl
theorem wk_StringUTF16_227 : Cond.constant "java/lang/StringUTF16" 227 65536 ∈ WS := List.mem_of_getElem? (i := 266) rfl
theorem wf_String_1053 : Cond.fieldLink "java/lang/String" 1053 "jdk/internal/util/Preconditions" "SIOOBE_FORMATTER" "Ljava/util/function/BiFunction;" ∈ WS := List.mem_of_getElem? (i := 267) rfl
theorem wf_StringUTF16_44 : Cond.fieldLink "java/lang/StringUTF16" 44 "java/lang/StringUTF16" "$assertionsDisabled" "Z" ∈ WS := List.mem_of_getElem? (i := 268) rfl
theorem wf_StringUTF16_59 : Cond.fieldLink "java/lang/StringUTF16" 59 "java/lang/StringUTF16" "HI_BYTE_SHIFT" "I" ∈ WS := List.mem_of_getElem? (i := 269) rfl
theorem wf_StringUTF16_63 : Cond.fieldLink "java/lang/StringUTF16" 63 "java/lang/StringUTF16" "LO_BYTE_SHIFT" "I" ∈ WS := List.mem_of_getElem? (i := 270) rfl
theorem wk_Character_110 : Cond.constant "java/lang/Character" 110 55232 ∈ WS := List.mem_of_getElem? (i := 271) rfl
theorem wk_Character_76 : Cond.constant "java/lang/Character" 76 56320 ∈ WS := List.mem_of_getElem? (i := 272) rfl
theorem wm_PathTemplate_31 : Cond.methodLink "TemplateCaller$PathTemplate" 31 y_Chars_isOperator ∈ WS := List.mem_of_getElem? (i := 273) rfl
theorem wc_Chars_isOperator : Cond.code y_Chars_isOperator b_Chars_isOperator 1 (some .boolean) ∈ WS := List.mem_of_getElem? (i := 275) rfl
theorem wm_PathTemplate_34 : Cond.methodLink "TemplateCaller$PathTemplate" 34 y_Chars_isSmall ∈ WS := List.mem_of_getElem? (i := 276) rfl
theorem wm_PathTemplate_37 : Cond.methodLink "TemplateCaller$PathTemplate" 37 y_PathTemplate_placeBehindVariable ∈ WS := List.mem_of_getElem? (i := 277) rfl
theorem wc_PathTemplate_placeBehindVariable : Cond.code y_PathTemplate_placeBehindVariable b_PathTemplate_placeBehindVariable 1 (some .int) ∈ WS := List.mem_of_getElem? (i := 279) rfl
theorem wm_Declaration_60 : Cond.methodLink "TemplateCaller$Declaration" 60 y_Declaration_hasUnknownVariable ∈ WS := List.mem_of_getElem? (i := 280) rfl
theorem wc_Declaration_hasUnknownVariable : Cond.code y_Declaration_hasUnknownVariable b_Declaration_hasUnknownVariable 2 (some .boolean) ∈ WS := List.mem_of_getElem? (i := 282) rfl
theorem wm_Declaration_88 : Cond.methodLink "TemplateCaller$Declaration" 88 y_PathTemplate_isVariable ∈ WS := List.mem_of_getElem? (i := 283) rfl
theorem wc_PathTemplate_isVariable : Cond.code y_PathTemplate_isVariable b_PathTemplate_isVariable 3 (some .boolean) ∈ WS := List.mem_of_getElem? (i := 286) rfl
theorem wm_Declaration_92 : Cond.methodLink "TemplateCaller$Declaration" 92 y_PathTemplate_at ∈ WS := List.mem_of_getElem? (i := 287) rfl
theorem wm_Declaration_96 : Cond.methodLink "TemplateCaller$Declaration" 96 y_Declaration_parameterOf ∈ WS := List.mem_of_getElem? (i := 288) rfl
theorem wc_Declaration_parameterOf : Cond.code y_Declaration_parameterOf b_Declaration_parameterOf 3 (some (.object "TemplateCaller$Parameter")) ∈ WS := List.mem_of_getElem? (i := 291) rfl
theorem wm_Declaration_49 : Cond.methodLink "TemplateCaller$Declaration" 49 y_Parameter_isInPath ∈ WS := List.mem_of_getElem? (i := 292) rfl
theorem wc_Parameter_isInPath : Cond.code y_Parameter_isInPath b_Parameter_isInPath 1 (some .boolean) ∈ WS := List.mem_of_getElem? (i := 295) rfl
theorem wm_Declaration_63 : Cond.methodLink "TemplateCaller$Declaration" 63 y_Declaration_hasLetterTwice ∈ WS := List.mem_of_getElem? (i := 296) rfl
theorem wc_Declaration_hasLetterTwice : Cond.code y_Declaration_hasLetterTwice b_Declaration_hasLetterTwice 3 (some .boolean) ∈ WS := List.mem_of_getElem? (i := 298) rfl
theorem wm_Declaration_66 : Cond.methodLink "TemplateCaller$Declaration" 66 y_Declaration_hasUnusedParameter ∈ WS := List.mem_of_getElem? (i := 299) rfl
set_option maxRecDepth 100000 in
theorem wc_Declaration_hasUnusedParameter : Cond.code y_Declaration_hasUnusedParameter b_Declaration_hasUnusedParameter 2 (some .boolean) ∈ WS := List.mem_of_getElem? (i := 301) rfl
set_option maxRecDepth 100000 in
theorem wm_Declaration_100 : Cond.methodLink "TemplateCaller$Declaration" 100 y_Declaration_hasVariable ∈ WS := List.mem_of_getElem? (i := 302) rfl
set_option maxRecDepth 100000 in
theorem wc_Declaration_hasVariable : Cond.code y_Declaration_hasVariable b_Declaration_hasVariable 3 (some .boolean) ∈ WS := List.mem_of_getElem? (i := 304) rfl
set_option maxRecDepth 100000 in
theorem wm_Declaration_69 : Cond.methodLink "TemplateCaller$Declaration" 69 y_Declaration_hasCutList ∈ WS := List.mem_of_getElem? (i := 305) rfl
set_option maxRecDepth 100000 in
theorem wc_Declaration_hasCutList : Cond.code y_Declaration_hasCutList b_Declaration_hasCutList 3 (some .boolean) ∈ WS := List.mem_of_getElem? (i := 307) rfl
set_option maxRecDepth 100000 in
theorem wm_Declaration_104 : Cond.methodLink "TemplateCaller$Declaration" 104 y_PathTemplate_isCut ∈ WS := List.mem_of_getElem? (i := 308) rfl
set_option maxRecDepth 100000 in
theorem wc_PathTemplate_isCut : Cond.code y_PathTemplate_isCut b_PathTemplate_isCut 2 (some .boolean) ∈ WS := List.mem_of_getElem? (i := 311) rfl
set_option maxRecDepth 100000 in
theorem wm_Declaration_72 : Cond.methodLink "TemplateCaller$Declaration" 72 y_Declaration_countOf ∈ WS := List.mem_of_getElem? (i := 312) rfl
set_option maxRecDepth 100000 in
theorem wc_Declaration_countOf : Cond.code y_Declaration_countOf b_Declaration_countOf 4 (some .int) ∈ WS := List.mem_of_getElem? (i := 314) rfl
set_option maxRecDepth 100000 in
theorem wm_Declaration_76 : Cond.methodLink "TemplateCaller$Declaration" 76 y_Declaration_mayHaveContent ∈ WS := List.mem_of_getElem? (i := 315) rfl
set_option maxRecDepth 100000 in
theorem wc_Declaration_mayHaveContent : Cond.code y_Declaration_mayHaveContent b_Declaration_mayHaveContent 1 (some .boolean) ∈ WS := List.mem_of_getElem? (i := 318) rfl
set_option maxRecDepth 100000 in
theorem wm_Law_33 : Cond.methodLink "TemplateCallerLaw" 33 y_TC_item ∈ WS := List.mem_of_getElem? (i := 319) rfl
set_option maxRecDepth 100000 in
theorem wc_TC_item : Cond.code y_TC_item b_TC_item 3 (some .boolean) ∈ WS := List.mem_of_getElem? (i := 322) rfl
set_option maxRecDepth 100000 in
theorem wm_TC_72 : Cond.methodLink "TemplateCaller" 72 y_Declaration_parameterAt ∈ WS := List.mem_of_getElem? (i := 323) rfl
set_option maxRecDepth 100000 in
theorem wc_Declaration_parameterAt : Cond.code y_Declaration_parameterAt b_Declaration_parameterAt 2 (some (.object "TemplateCaller$Parameter")) ∈ WS := List.mem_of_getElem? (i := 326) rfl
set_option maxRecDepth 100000 in
theorem wm_TC_76 : Cond.methodLink "TemplateCaller" 76 y_Parameter_addItem ∈ WS := List.mem_of_getElem? (i := 327) rfl
set_option maxRecDepth 100000 in
theorem wc_Parameter_addItem : Cond.code y_Parameter_addItem b_Parameter_addItem 2 (some .boolean) ∈ WS := List.mem_of_getElem? (i := 330) rfl
set_option maxRecDepth 100000 in
theorem wm_Law_37 : Cond.methodLink "TemplateCallerLaw" 37 y_TC_write ∈ WS := List.mem_of_getElem? (i := 331) rfl
set_option maxRecDepth 100000 in
theorem wc_TC_write : Cond.code y_TC_write b_TC_write 4 (some .boolean) ∈ WS := List.mem_of_getElem? (i := 334) rfl
set_option maxRecDepth 100000 in
theorem wm_TC_80 : Cond.methodLink "TemplateCaller" 80 y_Parameter_addChar ∈ WS := List.mem_of_getElem? (i := 335) rfl
set_option maxRecDepth 100000 in
theorem wc_Parameter_addChar : Cond.code y_Parameter_addChar b_Parameter_addChar 2 (some .boolean) ∈ WS := List.mem_of_getElem? (i := 338) rfl
set_option maxRecDepth 100000 in
theorem wm_Parameter_30 : Cond.methodLink "TemplateCaller$Parameter" 30 y_Item_add ∈ WS := List.mem_of_getElem? (i := 339) rfl
set_option maxRecDepth 100000 in
theorem wc_Item_add : Cond.code y_Item_add b_Item_add 2 (some .boolean) ∈ WS := List.mem_of_getElem? (i := 342) rfl
set_option maxRecDepth 100000 in
theorem wm_Law_42 : Cond.methodLink "TemplateCallerLaw" 42 y_TC_empty ∈ WS := List.mem_of_getElem? (i := 343) rfl
set_option maxRecDepth 100000 in
theorem wc_TC_empty : Cond.code y_TC_empty b_TC_empty 3 (some .boolean) ∈ WS := List.mem_of_getElem? (i := 346) rfl
set_option maxRecDepth 100000 in
theorem wm_TC_83 : Cond.methodLink "TemplateCaller" 83 y_Parameter_dropItems ∈ WS := List.mem_of_getElem? (i := 347) rfl
set_option maxRecDepth 100000 in
theorem wc_Parameter_dropItems : Cond.code y_Parameter_dropItems b_Parameter_dropItems 1 none ∈ WS := List.mem_of_getElem? (i := 350) rfl
set_option maxRecDepth 100000 in
theorem wm_Law_46 : Cond.methodLink "TemplateCallerLaw" 46 y_TC_send ∈ WS := List.mem_of_getElem? (i := 351) rfl
set_option maxRecDepth 100000 in
theorem wc_TC_send : Cond.code y_TC_send b_TC_send 3 (some .int) ∈ WS := List.mem_of_getElem? (i := 354) rfl
set_option maxRecDepth 100000 in
theorem wm_TC_86 : Cond.methodLink "TemplateCaller" 86 y_Declaration_argumentFault ∈ WS := List.mem_of_getElem? (i := 355) rfl
set_option maxRecDepth 100000 in
theorem wc_Declaration_argumentFault : Cond.code y_Declaration_argumentFault b_Declaration_argumentFault 2 (some .int) ∈ WS := List.mem_of_getElem? (i := 358) rfl
set_option maxRecDepth 100000 in
theorem wm_Declaration_79 : Cond.methodLink "TemplateCaller$Declaration" 79 y_Parameter_hasLone ∈ WS := List.mem_of_getElem? (i := 359) rfl
set_option maxRecDepth 100000 in
theorem wc_Parameter_hasLone : Cond.code y_Parameter_hasLone b_Parameter_hasLone 2 (some .boolean) ∈ WS := List.mem_of_getElem? (i := 362) rfl
set_option maxRecDepth 100000 in
theorem wm_Parameter_34 : Cond.methodLink "TemplateCaller$Parameter" 34 y_Item_hasLone ∈ WS := List.mem_of_getElem? (i := 363) rfl
set_option maxRecDepth 100000 in
theorem wc_Item_hasLone : Cond.code y_Item_hasLone b_Item_hasLone 2 (some .boolean) ∈ WS := List.mem_of_getElem? (i := 366) rfl
set_option maxRecDepth 100000 in
theorem wm_Item_20 : Cond.methodLink "TemplateCaller$Item" 20 y_Item_isPair ∈ WS := List.mem_of_getElem? (i := 367) rfl
set_option maxRecDepth 100000 in
theorem wc_Item_isPair : Cond.code y_Item_isPair b_Item_isPair 2 (some .boolean) ∈ WS := List.mem_of_getElem? (i := 370) rfl
set_option maxRecDepth 100000 in
theorem wk_Item_17 : Cond.constant "TemplateCaller$Item" 17 55296 ∈ WS := List.mem_of_getElem? (i := 371) rfl
set_option maxRecDepth 100000 in
theorem wk_Item_18 : Cond.constant "TemplateCaller$Item" 18 56320 ∈ WS := List.mem_of_getElem? (i := 372) rfl
set_option maxRecDepth 100000 in
theorem wk_Item_19 : Cond.constant "TemplateCaller$Item" 19 57343 ∈ WS := List.mem_of_getElem? (i := 373) rfl
set_option maxRecDepth 100000 in
theorem wm_Item_24 : Cond.methodLink "TemplateCaller$Item" 24 y_Item_at ∈ WS := List.mem_of_getElem? (i := 374) rfl
set_option maxRecDepth 100000 in
theorem wc_Item_at : Cond.code y_Item_at b_Item_at 2 (some .char) ∈ WS := List.mem_of_getElem? (i := 377) rfl
set_option maxRecDepth 100000 in
theorem wm_Declaration_85 : Cond.methodLink "TemplateCaller$Declaration" 85 y_Parameter_fitsHeader ∈ WS := List.mem_of_getElem? (i := 378) rfl
set_option maxRecDepth 100000 in
theorem wc_Parameter_fitsHeader : Cond.code y_Parameter_fitsHeader b_Parameter_fitsHeader 2 (some .boolean) ∈ WS := List.mem_of_getElem? (i := 381) rfl
set_option maxRecDepth 100000 in
theorem wm_Parameter_38 : Cond.methodLink "TemplateCaller$Parameter" 38 y_Item_fitsHeader ∈ WS := List.mem_of_getElem? (i := 382) rfl
set_option maxRecDepth 100000 in
theorem wc_Item_fitsHeader : Cond.code y_Item_fitsHeader b_Item_fitsHeader 2 (some .boolean) ∈ WS := List.mem_of_getElem? (i := 385) rfl
set_option maxRecDepth 100000 in
theorem wm_TC_89 : Cond.methodLink "TemplateCaller" 89 y_RequestWriter_compose ∈ WS := List.mem_of_getElem? (i := 386) rfl
set_option maxRecDepth 100000 in
theorem wc_RequestWriter_compose : Cond.code y_RequestWriter_compose b_RequestWriter_compose 2 none ∈ WS := List.mem_of_getElem? (i := 389) rfl
set_option maxRecDepth 100000 in
theorem wm_RequestWriter_33 : Cond.methodLink "TemplateCaller$RequestWriter" 33 y_Declaration_verbName ∈ WS := List.mem_of_getElem? (i := 390) rfl
set_option maxRecDepth 100000 in
theorem wc_Declaration_verbName : Cond.code y_Declaration_verbName b_Declaration_verbName 1 (some (.object "java/lang/String")) ∈ WS := List.mem_of_getElem? (i := 393) rfl
set_option maxRecDepth 100000 in
theorem wm_RequestWriter_37 : Cond.methodLink "TemplateCaller$RequestWriter" 37 y_ByteRow_putText ∈ WS := List.mem_of_getElem? (i := 394) rfl
set_option maxRecDepth 100000 in
theorem wc_ByteRow_putText : Cond.code y_ByteRow_putText b_ByteRow_putText 3 none ∈ WS := List.mem_of_getElem? (i := 397) rfl
set_option maxRecDepth 100000 in
theorem wm_ByteRow_17 : Cond.methodLink "TemplateCaller$ByteRow" 17 y_String_length ∈ WS := List.mem_of_getElem? (i := 398) rfl
set_option maxRecDepth 100000 in
theorem wm_ByteRow_23 : Cond.methodLink "TemplateCaller$ByteRow" 23 y_String_charAt ∈ WS := List.mem_of_getElem? (i := 399) rfl
set_option maxRecDepth 100000 in
theorem wc_String_charAt : Cond.code y_String_charAt b_String_charAt 2 (some .char) ∈ WS := List.mem_of_getElem? (i := 402) rfl
set_option maxRecDepth 100000 in
theorem wm_String_495 : Cond.methodLink "java/lang/String" 495 y_StringLatin1_charAt ∈ WS := List.mem_of_getElem? (i := 403) rfl
set_option maxRecDepth 100000 in
theorem wc_StringLatin1_charAt : Cond.code y_StringLatin1_charAt b_StringLatin1_charAt 2 (some .char) ∈ WS := List.mem_of_getElem? (i := 405) rfl
set_option maxRecDepth 100000 in
theorem wm_StringLatin1_9 : Cond.methodLink "java/lang/StringLatin1" 9 y_String_checkIndex ∈ WS := List.mem_of_getElem? (i := 406) rfl
set_option maxRecDepth 100000 in
theorem wc_String_checkIndex : Cond.code y_String_checkIndex b_String_checkIndex 2 none ∈ WS := List.mem_of_getElem? (i := 408) rfl
set_option maxRecDepth 100000 in
theorem wm_String_1059 : Cond.methodLink "java/lang/String" 1059 y_Preconditions_checkIndex ∈ WS := List.mem_of_getElem? (i := 409) rfl
set_option maxRecDepth 100000 in
theorem wc_Preconditions_checkIndex : Cond.code y_Preconditions_checkIndex b_Preconditions_checkIndex 3 (some .int) ∈ WS := List.mem_of_getElem? (i := 411) rfl
set_option maxRecDepth 100000 in
theorem wm_StringUTF16_414 : Cond.methodLink "java/lang/StringUTF16" 414 y_String_checkIndex ∈ WS := List.mem_of_getElem? (i := 412) rfl
set_option maxRecDepth 100000 in
theorem wm_ByteRow_27 : Cond.methodLink "TemplateCaller$ByteRow" 27 y_ByteRow_put ∈ WS := List.mem_of_getElem? (i := 413) rfl
set_option maxRecDepth 100000 in
theorem wc_ByteRow_put : Cond.code y_ByteRow_put b_ByteRow_put 2 none ∈ WS := List.mem_of_getElem? (i := 416) rfl
set_option maxRecDepth 100000 in
theorem wm_RequestWriter_41 : Cond.methodLink "TemplateCaller$RequestWriter" 41 y_ByteRow_put ∈ WS := List.mem_of_getElem? (i := 417) rfl
set_option maxRecDepth 100000 in
theorem wm_RequestWriter_44 : Cond.methodLink "TemplateCaller$RequestWriter" 44 y_RequestWriter_putExpanded ∈ WS := List.mem_of_getElem? (i := 418) rfl
set_option maxRecDepth 100000 in
theorem wc_RequestWriter_putExpanded : Cond.code y_RequestWriter_putExpanded b_RequestWriter_putExpanded 8 none ∈ WS := List.mem_of_getElem? (i := 420) rfl
set_option maxRecDepth 100000 in
theorem wm_RequestWriter_73 : Cond.methodLink "TemplateCaller$RequestWriter" 73 y_PathTemplate_at ∈ WS := List.mem_of_getElem? (i := 421) rfl
set_option maxRecDepth 100000 in
theorem wm_RequestWriter_77 : Cond.methodLink "TemplateCaller$RequestWriter" 77 y_PathTemplate_operatorBehind ∈ WS := List.mem_of_getElem? (i := 422) rfl
set_option maxRecDepth 100000 in
theorem wc_PathTemplate_operatorBehind : Cond.code y_PathTemplate_operatorBehind b_PathTemplate_operatorBehind 3 (some .char) ∈ WS := List.mem_of_getElem? (i := 425) rfl
set_option maxRecDepth 100000 in
theorem wm_RequestWriter_80 : Cond.methodLink "TemplateCaller$RequestWriter" 80 y_Chars_isSmall ∈ WS := List.mem_of_getElem? (i := 426) rfl
set_option maxRecDepth 100000 in
theorem wm_RequestWriter_86 : Cond.methodLink "TemplateCaller$RequestWriter" 86 y_Declaration_parameterOf ∈ WS := List.mem_of_getElem? (i := 427) rfl
set_option maxRecDepth 100000 in
theorem wm_RequestWriter_95 : Cond.methodLink "TemplateCaller$RequestWriter" 95 y_RequestWriter_putStartOrBreak ∈ WS := List.mem_of_getElem? (i := 428) rfl
set_option maxRecDepth 100000 in
theorem wc_RequestWriter_putStartOrBreak : Cond.code y_RequestWriter_putStartOrBreak b_RequestWriter_putStartOrBreak 3 none ∈ WS := List.mem_of_getElem? (i := 430) rfl
set_option maxRecDepth 100000 in
theorem wm_RequestWriter_103 : Cond.methodLink "TemplateCaller$RequestWriter" 103 y_RequestWriter_breakOf ∈ WS := List.mem_of_getElem? (i := 431) rfl
set_option maxRecDepth 100000 in
theorem wc_RequestWriter_breakOf : Cond.code y_RequestWriter_breakOf b_RequestWriter_breakOf 1 (some .char) ∈ WS := List.mem_of_getElem? (i := 433) rfl
set_option maxRecDepth 100000 in
theorem wm_RequestWriter_107 : Cond.methodLink "TemplateCaller$RequestWriter" 107 y_RequestWriter_startsWithItself ∈ WS := List.mem_of_getElem? (i := 434) rfl
set_option maxRecDepth 100000 in
theorem wc_RequestWriter_startsWithItself : Cond.code y_RequestWriter_startsWithItself b_RequestWriter_startsWithItself 1 (some .boolean) ∈ WS := List.mem_of_getElem? (i := 436) rfl
set_option maxRecDepth 100000 in
theorem wm_RequestWriter_99 : Cond.methodLink "TemplateCaller$RequestWriter" 99 y_RequestWriter_putVariable ∈ WS := List.mem_of_getElem? (i := 437) rfl
set_option maxRecDepth 100000 in
theorem wc_RequestWriter_putVariable : Cond.code y_RequestWriter_putVariable b_RequestWriter_putVariable 12 none ∈ WS := List.mem_of_getElem? (i := 439) rfl
set_option maxRecDepth 100000 in
theorem wm_RequestWriter_110 : Cond.methodLink "TemplateCaller$RequestWriter" 110 y_PathTemplate_isSpread ∈ WS := List.mem_of_getElem? (i := 440) rfl
set_option maxRecDepth 100000 in
theorem wc_PathTemplate_isSpread : Cond.code y_PathTemplate_isSpread b_PathTemplate_isSpread 2 (some .boolean) ∈ WS := List.mem_of_getElem? (i := 443) rfl
set_option maxRecDepth 100000 in
theorem wm_RequestWriter_116 : Cond.methodLink "TemplateCaller$RequestWriter" 116 y_PathTemplate_charactersFor ∈ WS := List.mem_of_getElem? (i := 444) rfl
set_option maxRecDepth 100000 in
theorem wc_PathTemplate_charactersFor : Cond.code y_PathTemplate_charactersFor b_PathTemplate_charactersFor 2 (some .int) ∈ WS := List.mem_of_getElem? (i := 447) rfl
set_option maxRecDepth 100000 in
theorem wm_PathTemplate_41 : Cond.methodLink "TemplateCaller$PathTemplate" 41 y_PathTemplate_isCut ∈ WS := List.mem_of_getElem? (i := 448) rfl
set_option maxRecDepth 100000 in
theorem wm_RequestWriter_131 : Cond.methodLink "TemplateCaller$RequestWriter" 131 y_Item_endOf ∈ WS := List.mem_of_getElem? (i := 449) rfl
set_option maxRecDepth 100000 in
theorem wc_Item_endOf : Cond.code y_Item_endOf b_Item_endOf 4 (some .int) ∈ WS := List.mem_of_getElem? (i := 452) rfl
set_option maxRecDepth 100000 in
theorem wm_RequestWriter_134 : Cond.methodLink "TemplateCaller$RequestWriter" 134 y_Encoder_putEncoded ∈ WS := List.mem_of_getElem? (i := 453) rfl
set_option maxRecDepth 100000 in
theorem wc_Encoder_putEncoded : Cond.code y_Encoder_putEncoded b_Encoder_putEncoded 6 none ∈ WS := List.mem_of_getElem? (i := 455) rfl
set_option maxRecDepth 100000 in
theorem wm_Encoder_7 : Cond.methodLink "TemplateCaller$Encoder" 7 y_Item_at ∈ WS := List.mem_of_getElem? (i := 456) rfl
set_option maxRecDepth 100000 in
theorem wm_Encoder_13 : Cond.methodLink "TemplateCaller$Encoder" 13 y_Chars_isUnreserved ∈ WS := List.mem_of_getElem? (i := 457) rfl
set_option maxRecDepth 100000 in
theorem wc_Chars_isUnreserved : Cond.code y_Chars_isUnreserved b_Chars_isUnreserved 1 (some .boolean) ∈ WS := List.mem_of_getElem? (i := 459) rfl
set_option maxRecDepth 100000 in
theorem wm_Encoder_19 : Cond.methodLink "TemplateCaller$Encoder" 19 y_ByteRow_put ∈ WS := List.mem_of_getElem? (i := 460) rfl
set_option maxRecDepth 100000 in
theorem wm_Encoder_27 : Cond.methodLink "TemplateCaller$Encoder" 27 y_Chars_isLooseMark ∈ WS := List.mem_of_getElem? (i := 461) rfl
set_option maxRecDepth 100000 in
theorem wc_Chars_isLooseMark : Cond.code y_Chars_isLooseMark b_Chars_isLooseMark 1 (some .boolean) ∈ WS := List.mem_of_getElem? (i := 463) rfl
set_option maxRecDepth 100000 in
theorem wm_Encoder_30 : Cond.methodLink "TemplateCaller$Encoder" 30 y_Item_isEscape ∈ WS := List.mem_of_getElem? (i := 464) rfl
set_option maxRecDepth 100000 in
theorem wc_Item_isEscape : Cond.code y_Item_isEscape b_Item_isEscape 3 (some .boolean) ∈ WS := List.mem_of_getElem? (i := 467) rfl
set_option maxRecDepth 100000 in
theorem wm_Item_29 : Cond.methodLink "TemplateCaller$Item" 29 y_Chars_hexValue ∈ WS := List.mem_of_getElem? (i := 468) rfl
set_option maxRecDepth 100000 in
theorem wc_Chars_hexValue : Cond.code y_Chars_hexValue b_Chars_hexValue 1 (some .int) ∈ WS := List.mem_of_getElem? (i := 470) rfl
set_option maxRecDepth 100000 in
theorem wm_Encoder_34 : Cond.methodLink "TemplateCaller$Encoder" 34 y_Item_codeAt ∈ WS := List.mem_of_getElem? (i := 471) rfl
set_option maxRecDepth 100000 in
theorem wc_Item_codeAt : Cond.code y_Item_codeAt b_Item_codeAt 2 (some .int) ∈ WS := List.mem_of_getElem? (i := 474) rfl
set_option maxRecDepth 100000 in
theorem wk_Item_28 : Cond.constant "TemplateCaller$Item" 28 65536 ∈ WS := List.mem_of_getElem? (i := 475) rfl
set_option maxRecDepth 100000 in
theorem wm_Encoder_38 : Cond.methodLink "TemplateCaller$Encoder" 38 y_Encoder_putEscaped ∈ WS := List.mem_of_getElem? (i := 476) rfl
set_option maxRecDepth 100000 in
theorem wc_Encoder_putEscaped : Cond.code y_Encoder_putEscaped b_Encoder_putEscaped 5 none ∈ WS := List.mem_of_getElem? (i := 478) rfl
set_option maxRecDepth 100000 in
theorem wm_Encoder_50 : Cond.methodLink "TemplateCaller$Encoder" 50 y_Encoder_utf8Count ∈ WS := List.mem_of_getElem? (i := 479) rfl
set_option maxRecDepth 100000 in
theorem wc_Encoder_utf8Count : Cond.code y_Encoder_utf8Count b_Encoder_utf8Count 1 (some .int) ∈ WS := List.mem_of_getElem? (i := 481) rfl
set_option maxRecDepth 100000 in
theorem wk_Encoder_60 : Cond.constant "TemplateCaller$Encoder" 60 65536 ∈ WS := List.mem_of_getElem? (i := 482) rfl
set_option maxRecDepth 100000 in
theorem wm_Encoder_53 : Cond.methodLink "TemplateCaller$Encoder" 53 y_Encoder_utf8Byte ∈ WS := List.mem_of_getElem? (i := 483) rfl
set_option maxRecDepth 100000 in
theorem wc_Encoder_utf8Byte : Cond.code y_Encoder_utf8Byte b_Encoder_utf8Byte 4 (some .int) ∈ WS := List.mem_of_getElem? (i := 485) rfl
set_option maxRecDepth 100000 in
theorem wm_Encoder_57 : Cond.methodLink "TemplateCaller$Encoder" 57 y_Chars_hexDigit ∈ WS := List.mem_of_getElem? (i := 486) rfl
set_option maxRecDepth 100000 in
theorem wc_Chars_hexDigit : Cond.code y_Chars_hexDigit b_Chars_hexDigit 1 (some .int) ∈ WS := List.mem_of_getElem? (i := 488) rfl
set_option maxRecDepth 100000 in
theorem wm_Encoder_42 : Cond.methodLink "TemplateCaller$Encoder" 42 y_Item_isPair ∈ WS := List.mem_of_getElem? (i := 489) rfl
set_option maxRecDepth 100000 in
theorem wm_RequestWriter_48 : Cond.methodLink "TemplateCaller$RequestWriter" 48 y_RequestWriter_putQuery ∈ WS := List.mem_of_getElem? (i := 490) rfl
set_option maxRecDepth 100000 in
theorem wc_RequestWriter_putQuery : Cond.code y_RequestWriter_putQuery b_RequestWriter_putQuery 4 none ∈ WS := List.mem_of_getElem? (i := 492) rfl
set_option maxRecDepth 100000 in
theorem wm_RequestWriter_146 : Cond.methodLink "TemplateCaller$RequestWriter" 146 y_RequestWriter_putQueryItems ∈ WS := List.mem_of_getElem? (i := 493) rfl
set_option maxRecDepth 100000 in
theorem wc_RequestWriter_putQueryItems : Cond.code y_RequestWriter_putQueryItems b_RequestWriter_putQueryItems 4 none ∈ WS := List.mem_of_getElem? (i := 495) rfl
set_option maxRecDepth 100000 in
theorem wm_RequestWriter_150 : Cond.methodLink "TemplateCaller$RequestWriter" 150 y_ByteRow_has ∈ WS := List.mem_of_getElem? (i := 496) rfl
set_option maxRecDepth 100000 in
theorem wc_ByteRow_has : Cond.code y_ByteRow_has b_ByteRow_has 3 (some .boolean) ∈ WS := List.mem_of_getElem? (i := 499) rfl
set_option maxRecDepth 100000 in
theorem wm_RequestWriter_53 : Cond.methodLink "TemplateCaller$RequestWriter" 53 y_RequestWriter_putHeaders ∈ WS := List.mem_of_getElem? (i := 500) rfl
set_option maxRecDepth 100000 in
theorem wc_RequestWriter_putHeaders : Cond.code y_RequestWriter_putHeaders b_RequestWriter_putHeaders 4 none ∈ WS := List.mem_of_getElem? (i := 502) rfl
set_option maxRecDepth 100000 in
theorem wm_RequestWriter_153 : Cond.methodLink "TemplateCaller$RequestWriter" 153 y_RequestWriter_putHeader ∈ WS := List.mem_of_getElem? (i := 503) rfl
set_option maxRecDepth 100000 in
theorem wc_RequestWriter_putHeader : Cond.code y_RequestWriter_putHeader b_RequestWriter_putHeader 3 none ∈ WS := List.mem_of_getElem? (i := 505) rfl
set_option maxRecDepth 100000 in
theorem wm_RequestWriter_162 : Cond.methodLink "TemplateCaller$RequestWriter" 162 y_RequestWriter_putAscii ∈ WS := List.mem_of_getElem? (i := 506) rfl
set_option maxRecDepth 100000 in
theorem wc_RequestWriter_putAscii : Cond.code y_RequestWriter_putAscii b_RequestWriter_putAscii 3 none ∈ WS := List.mem_of_getElem? (i := 508) rfl
set_option maxRecDepth 100000 in
theorem wm_RequestWriter_166 : Cond.methodLink "TemplateCaller$RequestWriter" 166 y_Item_at ∈ WS := List.mem_of_getElem? (i := 509) rfl
set_option maxRecDepth 100000 in
theorem wm_RequestWriter_56 : Cond.methodLink "TemplateCaller$RequestWriter" 56 y_Declaration_mayHaveContent ∈ WS := List.mem_of_getElem? (i := 510) rfl
set_option maxRecDepth 100000 in
theorem wm_RequestWriter_60 : Cond.methodLink "TemplateCaller$RequestWriter" 60 y_RequestWriter_putBodyOrForm ∈ WS := List.mem_of_getElem? (i := 511) rfl
set_option maxRecDepth 100000 in
theorem wc_RequestWriter_putBodyOrForm : Cond.code y_RequestWriter_putBodyOrForm b_RequestWriter_putBodyOrForm 5 none ∈ WS := List.mem_of_getElem? (i := 513) rfl
set_option maxRecDepth 100000 in
theorem wm_RequestWriter_167 : Cond.methodLink "TemplateCaller$RequestWriter" 167 y_Encoder_putUtf8 ∈ WS := List.mem_of_getElem? (i := 514) rfl
set_option maxRecDepth 100000 in
theorem wc_Encoder_putUtf8 : Cond.code y_Encoder_putUtf8 b_Encoder_putUtf8 6 none ∈ WS := List.mem_of_getElem? (i := 516) rfl
set_option maxRecDepth 100000 in
theorem wm_RequestWriter_170 : Cond.methodLink "TemplateCaller$RequestWriter" 170 y_RequestWriter_putFormItems ∈ WS := List.mem_of_getElem? (i := 517) rfl
set_option maxRecDepth 100000 in
theorem wc_RequestWriter_putFormItems : Cond.code y_RequestWriter_putFormItems b_RequestWriter_putFormItems 5 none ∈ WS := List.mem_of_getElem? (i := 519) rfl
set_option maxRecDepth 100000 in
theorem wm_RequestWriter_65 : Cond.methodLink "TemplateCaller$RequestWriter" 65 y_ByteRow_putNumber ∈ WS := List.mem_of_getElem? (i := 520) rfl
set_option maxRecDepth 100000 in
theorem wc_ByteRow_putNumber : Cond.code y_ByteRow_putNumber b_ByteRow_putNumber 3 none ∈ WS := List.mem_of_getElem? (i := 523) rfl
set_option maxRecDepth 100000 in
theorem wm_Law_50 : Cond.methodLink "TemplateCallerLaw" 50 y_TC_sent ∈ WS := List.mem_of_getElem? (i := 524) rfl
set_option maxRecDepth 100000 in
theorem wc_TC_sent : Cond.code y_TC_sent b_TC_sent 2 (some .int) ∈ WS := List.mem_of_getElem? (i := 527) rfl
set_option maxRecDepth 100000 in
theorem wm_TC_97 : Cond.methodLink "TemplateCaller" 97 y_ByteRow_at ∈ WS := List.mem_of_getElem? (i := 528) rfl
set_option maxRecDepth 100000 in
theorem wc_ByteRow_at : Cond.code y_ByteRow_at b_ByteRow_at 2 (some .int) ∈ WS := List.mem_of_getElem? (i := 531) rfl
set_option maxRecDepth 100000 in
theorem wm_Law_55 : Cond.methodLink "TemplateCallerLaw" 55 y_TC_feed ∈ WS := List.mem_of_getElem? (i := 532) rfl
set_option maxRecDepth 100000 in
theorem wc_TC_feed : Cond.code y_TC_feed b_TC_feed 2 (some .int) ∈ WS := List.mem_of_getElem? (i := 535) rfl
set_option maxRecDepth 100000 in
theorem wm_TC_104 : Cond.methodLink "TemplateCaller" 104 y_Reader_take ∈ WS := List.mem_of_getElem? (i := 536) rfl
set_option maxRecDepth 100000 in
theorem wc_Reader_take : Cond.code y_Reader_take b_Reader_take 3 none ∈ WS := List.mem_of_getElem? (i := 539) rfl
set_option maxRecDepth 100000 in
theorem wm_Reader_57 : Cond.methodLink "TemplateCaller$Reader" 57 y_Reader_takeCounted ∈ WS := List.mem_of_getElem? (i := 540) rfl
set_option maxRecDepth 100000 in
theorem wc_Reader_takeCounted : Cond.code y_Reader_takeCounted b_Reader_takeCounted 2 none ∈ WS := List.mem_of_getElem? (i := 542) rfl
set_option maxRecDepth 100000 in
theorem wm_Reader_71 : Cond.methodLink "TemplateCaller$Reader" 71 y_ByteRow_put ∈ WS := List.mem_of_getElem? (i := 543) rfl
set_option maxRecDepth 100000 in
theorem wm_Reader_60 : Cond.methodLink "TemplateCaller$Reader" 60 y_Reader_takeUncounted ∈ WS := List.mem_of_getElem? (i := 544) rfl
set_option maxRecDepth 100000 in
theorem wc_Reader_takeUncounted : Cond.code y_Reader_takeUncounted b_Reader_takeUncounted 2 none ∈ WS := List.mem_of_getElem? (i := 546) rfl
set_option maxRecDepth 100000 in
theorem wm_Reader_63 : Cond.methodLink "TemplateCaller$Reader" 63 y_Reader_takeDue ∈ WS := List.mem_of_getElem? (i := 547) rfl
set_option maxRecDepth 100000 in
theorem wc_Reader_takeDue : Cond.code y_Reader_takeDue b_Reader_takeDue 4 none ∈ WS := List.mem_of_getElem? (i := 549) rfl
set_option maxRecDepth 100000 in
theorem wm_Reader_67 : Cond.methodLink "TemplateCaller$Reader" 67 y_Reader_takeOfLine ∈ WS := List.mem_of_getElem? (i := 550) rfl
set_option maxRecDepth 100000 in
theorem wc_Reader_takeOfLine : Cond.code y_Reader_takeOfLine b_Reader_takeOfLine 4 none ∈ WS := List.mem_of_getElem? (i := 552) rfl
set_option maxRecDepth 100000 in
theorem wm_Reader_74 : Cond.methodLink "TemplateCaller$Reader" 74 y_Line_add ∈ WS := List.mem_of_getElem? (i := 553) rfl
set_option maxRecDepth 100000 in
theorem wc_Line_add : Cond.code y_Line_add b_Line_add 2 (some .int) ∈ WS := List.mem_of_getElem? (i := 556) rfl
set_option maxRecDepth 100000 in
theorem wm_Reader_78 : Cond.methodLink "TemplateCaller$Reader" 78 y_Reader_readLine ∈ WS := List.mem_of_getElem? (i := 557) rfl
set_option maxRecDepth 100000 in
theorem wc_Reader_readLine : Cond.code y_Reader_readLine b_Reader_readLine 2 (some .boolean) ∈ WS := List.mem_of_getElem? (i := 559) rfl
set_option maxRecDepth 100000 in
theorem wm_Reader_82 : Cond.methodLink "TemplateCaller$Reader" 82 y_Head_readFirst ∈ WS := List.mem_of_getElem? (i := 560) rfl
set_option maxRecDepth 100000 in
theorem wc_Head_readFirst : Cond.code y_Head_readFirst b_Head_readFirst 3 (some .boolean) ∈ WS := List.mem_of_getElem? (i := 563) rfl
set_option maxRecDepth 100000 in
theorem wm_Head_31 : Cond.methodLink "TemplateCaller$Head" 31 y_Line_number ∈ WS := List.mem_of_getElem? (i := 564) rfl
set_option maxRecDepth 100000 in
theorem wc_Line_number : Cond.code y_Line_number b_Line_number 5 (some .int) ∈ WS := List.mem_of_getElem? (i := 567) rfl
set_option maxRecDepth 100000 in
theorem wm_Line_27 : Cond.methodLink "TemplateCaller$Line" 27 y_Line_at ∈ WS := List.mem_of_getElem? (i := 568) rfl
set_option maxRecDepth 100000 in
theorem wc_Line_at : Cond.code y_Line_at b_Line_at 2 (some .char) ∈ WS := List.mem_of_getElem? (i := 571) rfl
set_option maxRecDepth 100000 in
theorem wm_Line_47 : Cond.methodLink "TemplateCaller$Line" 47 y_Chars_isDigit ∈ WS := List.mem_of_getElem? (i := 572) rfl
set_option maxRecDepth 100000 in
theorem wc_Chars_isDigit : Cond.code y_Chars_isDigit b_Chars_isDigit 1 (some .boolean) ∈ WS := List.mem_of_getElem? (i := 574) rfl
set_option maxRecDepth 100000 in
theorem wm_Head_39 : Cond.methodLink "TemplateCaller$Head" 39 y_Line_startsWith ∈ WS := List.mem_of_getElem? (i := 575) rfl
set_option maxRecDepth 100000 in
theorem wc_Line_startsWith : Cond.code y_Line_startsWith b_Line_startsWith 3 (some .boolean) ∈ WS := List.mem_of_getElem? (i := 578) rfl
set_option maxRecDepth 100000 in
theorem wm_Line_21 : Cond.methodLink "TemplateCaller$Line" 21 y_String_length ∈ WS := List.mem_of_getElem? (i := 579) rfl
set_option maxRecDepth 100000 in
theorem wm_Line_31 : Cond.methodLink "TemplateCaller$Line" 31 y_String_charAt ∈ WS := List.mem_of_getElem? (i := 580) rfl
set_option maxRecDepth 100000 in
theorem wm_Head_43 : Cond.methodLink "TemplateCaller$Head" 43 y_Line_at ∈ WS := List.mem_of_getElem? (i := 581) rfl
set_option maxRecDepth 100000 in
theorem wm_Reader_87 : Cond.methodLink "TemplateCaller$Reader" 87 y_Reader_endHead ∈ WS := List.mem_of_getElem? (i := 582) rfl
set_option maxRecDepth 100000 in
theorem wc_Reader_endHead : Cond.code y_Reader_endHead b_Reader_endHead 2 (some .boolean) ∈ WS := List.mem_of_getElem? (i := 584) rfl
set_option maxRecDepth 100000 in
theorem wm_Reader_107 : Cond.methodLink "TemplateCaller$Reader" 107 y_Head_isForgotten ∈ WS := List.mem_of_getElem? (i := 585) rfl
set_option maxRecDepth 100000 in
theorem wc_Head_isForgotten : Cond.code y_Head_isForgotten b_Head_isForgotten 1 (some .boolean) ∈ WS := List.mem_of_getElem? (i := 588) rfl
set_option maxRecDepth 100000 in
theorem wm_Reader_113 : Cond.methodLink "TemplateCaller$Reader" 113 y_Head_hasNoContent ∈ WS := List.mem_of_getElem? (i := 589) rfl
set_option maxRecDepth 100000 in
theorem wc_Head_hasNoContent : Cond.code y_Head_hasNoContent b_Head_hasNoContent 2 (some .boolean) ∈ WS := List.mem_of_getElem? (i := 592) rfl
set_option maxRecDepth 100000 in
theorem wm_Reader_100 : Cond.methodLink "TemplateCaller$Reader" 100 y_Reader_endContent ∈ WS := List.mem_of_getElem? (i := 593) rfl
set_option maxRecDepth 100000 in
theorem wc_Reader_endContent : Cond.code y_Reader_endContent b_Reader_endContent 1 (some .boolean) ∈ WS := List.mem_of_getElem? (i := 595) rfl
set_option maxRecDepth 100000 in
theorem wm_Reader_116 : Cond.methodLink "TemplateCaller$Reader" 116 y_Reader_beginContent ∈ WS := List.mem_of_getElem? (i := 596) rfl
set_option maxRecDepth 100000 in
theorem wc_Reader_beginContent : Cond.code y_Reader_beginContent b_Reader_beginContent 1 (some .boolean) ∈ WS := List.mem_of_getElem? (i := 598) rfl
set_option maxRecDepth 100000 in
theorem wm_Reader_90 : Cond.methodLink "TemplateCaller$Reader" 90 y_Head_readField ∈ WS := List.mem_of_getElem? (i := 599) rfl
set_option maxRecDepth 100000 in
theorem wc_Head_readField : Cond.code y_Head_readField b_Head_readField 6 (some .boolean) ∈ WS := List.mem_of_getElem? (i := 602) rfl
set_option maxRecDepth 100000 in
theorem wm_Head_47 : Cond.methodLink "TemplateCaller$Head" 47 y_Line_colonBehindName ∈ WS := List.mem_of_getElem? (i := 603) rfl
set_option maxRecDepth 100000 in
theorem wc_Line_colonBehindName : Cond.code y_Line_colonBehindName b_Line_colonBehindName 2 (some .int) ∈ WS := List.mem_of_getElem? (i := 606) rfl
set_option maxRecDepth 100000 in
theorem wm_Line_40 : Cond.methodLink "TemplateCaller$Line" 40 y_Chars_isLetterOrDigit ∈ WS := List.mem_of_getElem? (i := 607) rfl
set_option maxRecDepth 100000 in
theorem wm_Head_51 : Cond.methodLink "TemplateCaller$Head" 51 y_Line_skipBlanks ∈ WS := List.mem_of_getElem? (i := 608) rfl
set_option maxRecDepth 100000 in
theorem wc_Line_skipBlanks : Cond.code y_Line_skipBlanks b_Line_skipBlanks 3 (some .int) ∈ WS := List.mem_of_getElem? (i := 611) rfl
set_option maxRecDepth 100000 in
theorem wm_Line_44 : Cond.methodLink "TemplateCaller$Line" 44 y_Chars_isBlank ∈ WS := List.mem_of_getElem? (i := 612) rfl
set_option maxRecDepth 100000 in
theorem wc_Chars_isBlank : Cond.code y_Chars_isBlank b_Chars_isBlank 1 (some .boolean) ∈ WS := List.mem_of_getElem? (i := 614) rfl
set_option maxRecDepth 100000 in
theorem wm_Head_55 : Cond.methodLink "TemplateCaller$Head" 55 y_Line_endWithoutBlanks ∈ WS := List.mem_of_getElem? (i := 615) rfl
set_option maxRecDepth 100000 in
theorem wc_Line_endWithoutBlanks : Cond.code y_Line_endWithoutBlanks b_Line_endWithoutBlanks 3 (some .int) ∈ WS := List.mem_of_getElem? (i := 618) rfl
set_option maxRecDepth 100000 in
theorem wm_Head_60 : Cond.methodLink "TemplateCaller$Head" 60 y_Line_isWord ∈ WS := List.mem_of_getElem? (i := 619) rfl
set_option maxRecDepth 100000 in
theorem wc_Line_isWord : Cond.code y_Line_isWord b_Line_isWord 5 (some .boolean) ∈ WS := List.mem_of_getElem? (i := 622) rfl
set_option maxRecDepth 100000 in
theorem wm_Line_34 : Cond.methodLink "TemplateCaller$Line" 34 y_Chars_toSmall ∈ WS := List.mem_of_getElem? (i := 623) rfl
set_option maxRecDepth 100000 in
theorem wc_Chars_toSmall : Cond.code y_Chars_toSmall b_Chars_toSmall 1 (some .char) ∈ WS := List.mem_of_getElem? (i := 625) rfl
set_option maxRecDepth 100000 in
theorem wm_Head_64 : Cond.methodLink "TemplateCaller$Head" 64 y_Head_setContentLength ∈ WS := List.mem_of_getElem? (i := 626) rfl
set_option maxRecDepth 100000 in
theorem wc_Head_setContentLength : Cond.code y_Head_setContentLength b_Head_setContentLength 2 (some .boolean) ∈ WS := List.mem_of_getElem? (i := 628) rfl
set_option maxRecDepth 100000 in
theorem wm_Head_71 : Cond.methodLink "TemplateCaller$Head" 71 y_Head_setChunked ∈ WS := List.mem_of_getElem? (i := 629) rfl
set_option maxRecDepth 100000 in
theorem wc_Head_setChunked : Cond.code y_Head_setChunked b_Head_setChunked 1 (some .boolean) ∈ WS := List.mem_of_getElem? (i := 631) rfl
set_option maxRecDepth 100000 in
theorem wm_Reader_93 : Cond.methodLink "TemplateCaller$Reader" 93 y_Line_chunkSize ∈ WS := List.mem_of_getElem? (i := 632) rfl
set_option maxRecDepth 100000 in
theorem wc_Line_chunkSize : Cond.code y_Line_chunkSize b_Line_chunkSize 4 (some .int) ∈ WS := List.mem_of_getElem? (i := 635) rfl
set_option maxRecDepth 100000 in
theorem wm_Line_50 : Cond.methodLink "TemplateCaller$Line" 50 y_Chars_hexValue ∈ WS := List.mem_of_getElem? (i := 636) rfl
set_option maxRecDepth 100000 in
theorem wm_Reader_97 : Cond.methodLink "TemplateCaller$Reader" 97 y_Reader_beginChunk ∈ WS := List.mem_of_getElem? (i := 637) rfl
set_option maxRecDepth 100000 in
theorem wc_Reader_beginChunk : Cond.code y_Reader_beginChunk b_Reader_beginChunk 2 (some .boolean) ∈ WS := List.mem_of_getElem? (i := 639) rfl
set_option maxRecDepth 100000 in
theorem wm_Reader_104 : Cond.methodLink "TemplateCaller$Reader" 104 y_Head_readTrailing ∈ WS := List.mem_of_getElem? (i := 640) rfl
set_option maxRecDepth 100000 in
theorem wc_Head_readTrailing : Cond.code y_Head_readTrailing b_Head_readTrailing 3 (some .boolean) ∈ WS := List.mem_of_getElem? (i := 643) rfl
set_option maxRecDepth 100000 in
theorem wm_Law_59 : Cond.methodLink "TemplateCallerLaw" 59 y_TC_close ∈ WS := List.mem_of_getElem? (i := 644) rfl
set_option maxRecDepth 100000 in
theorem wc_TC_close : Cond.code y_TC_close b_TC_close 1 (some .int) ∈ WS := List.mem_of_getElem? (i := 647) rfl
set_option maxRecDepth 100000 in
theorem wm_TC_111 : Cond.methodLink "TemplateCaller" 111 y_Reader_end ∈ WS := List.mem_of_getElem? (i := 648) rfl
set_option maxRecDepth 100000 in
theorem wc_Reader_end : Cond.code y_Reader_end b_Reader_end 1 none ∈ WS := List.mem_of_getElem? (i := 651) rfl
set_option maxRecDepth 100000 in
theorem wm_Law_63 : Cond.methodLink "TemplateCallerLaw" 63 y_TC_reset ∈ WS := List.mem_of_getElem? (i := 652) rfl
set_option maxRecDepth 100000 in
theorem wc_TC_reset : Cond.code y_TC_reset b_TC_reset 1 none ∈ WS := List.mem_of_getElem? (i := 655) rfl
set_option maxRecDepth 100000 in
theorem wm_TC_114 : Cond.methodLink "TemplateCaller" 114 y_Reader_restart ∈ WS := List.mem_of_getElem? (i := 656) rfl
set_option maxRecDepth 100000 in
theorem wm_Law_67 : Cond.methodLink "TemplateCallerLaw" 67 y_TC_state ∈ WS := List.mem_of_getElem? (i := 657) rfl
set_option maxRecDepth 100000 in
theorem wc_TC_state : Cond.code y_TC_state b_TC_state 1 (some .int) ∈ WS := List.mem_of_getElem? (i := 660) rfl
set_option maxRecDepth 100000 in
theorem wm_Law_71 : Cond.methodLink "TemplateCallerLaw" 71 y_TC_status ∈ WS := List.mem_of_getElem? (i := 661) rfl
set_option maxRecDepth 100000 in
theorem wc_TC_status : Cond.code y_TC_status b_TC_status 1 (some .int) ∈ WS := List.mem_of_getElem? (i := 664) rfl
set_option maxRecDepth 100000 in
theorem wm_Law_75 : Cond.methodLink "TemplateCallerLaw" 75 y_TC_fields ∈ WS := List.mem_of_getElem? (i := 665) rfl
set_option maxRecDepth 100000 in
theorem wc_TC_fields : Cond.code y_TC_fields b_TC_fields 1 (some .int) ∈ WS := List.mem_of_getElem? (i := 668) rfl
set_option maxRecDepth 100000 in
theorem wm_Law_79 : Cond.methodLink "TemplateCallerLaw" 79 y_TC_length ∈ WS := List.mem_of_getElem? (i := 669) rfl
set_option maxRecDepth 100000 in
theorem wc_TC_length : Cond.code y_TC_length b_TC_length 1 (some .int) ∈ WS := List.mem_of_getElem? (i := 672) rfl
set_option maxRecDepth 100000 in
theorem wm_Law_83 : Cond.methodLink "TemplateCallerLaw" 83 y_TC_content ∈ WS := List.mem_of_getElem? (i := 673) rfl
set_option maxRecDepth 100000 in
theorem wc_TC_content : Cond.code y_TC_content b_TC_content 2 (some .int) ∈ WS := List.mem_of_getElem? (i := 676) rfl
set_option maxRecDepth 100000 in
theorem wl_c_Law_10 : Cond.classLink "TemplateCallerLaw" 10 "TemplateCallerModel" ∈ WS := List.mem_of_getElem? (i := 677) rfl
set_option maxRecDepth 100000 in
theorem win_Mo : Cond.instantiable "TemplateCallerModel" 31 ∈ WS := List.mem_of_getElem? (i := 678) rfl
set_option maxRecDepth 100000 in
theorem wm_Law_12 : Cond.methodLink "TemplateCallerLaw" 12 y_Mo_init ∈ WS := List.mem_of_getElem? (i := 679) rfl
set_option maxRecDepth 100000 in
theorem wc_Mo_init : Cond.code y_Mo_init b_Mo_init 1 none ∈ WS := List.mem_of_getElem? (i := 681) rfl
set_option maxRecDepth 100000 in
theorem wm_Mo_1 : Cond.methodLink "TemplateCallerModel" 1 objectInit ∈ WS := List.mem_of_getElem? (i := 682) rfl
set_option maxRecDepth 100000 in
theorem wf_Mo_46 : Cond.fieldLink "TemplateCallerModel" 46 "TemplateCallerModel" "verb" "I" ∈ WS := List.mem_of_getElem? (i := 683) rfl
set_option maxRecDepth 100000 in
theorem wf_Mo_50 : Cond.fieldLink "TemplateCallerModel" 50 "TemplateCallerModel" "size" "I" ∈ WS := List.mem_of_getElem? (i := 684) rfl
set_option maxRecDepth 100000 in
theorem wf_Mo_7 : Cond.fieldLink "TemplateCallerModel" 7 "TemplateCallerModel" "text" "[I" ∈ WS := List.mem_of_getElem? (i := 685) rfl
set_option maxRecDepth 100000 in
theorem wf_Mo_53 : Cond.fieldLink "TemplateCallerModel" 53 "TemplateCallerModel" "count" "I" ∈ WS := List.mem_of_getElem? (i := 686) rfl
set_option maxRecDepth 100000 in
theorem wf_Mo_13 : Cond.fieldLink "TemplateCallerModel" 13 "TemplateCallerModel" "kind" "[I" ∈ WS := List.mem_of_getElem? (i := 687) rfl
set_option maxRecDepth 100000 in
theorem wf_Mo_16 : Cond.fieldLink "TemplateCallerModel" 16 "TemplateCallerModel" "letter" "[I" ∈ WS := List.mem_of_getElem? (i := 688) rfl
set_option maxRecDepth 100000 in
theorem wf_Mo_19 : Cond.fieldLink "TemplateCallerModel" 19 "TemplateCallerModel" "items" "[I" ∈ WS := List.mem_of_getElem? (i := 689) rfl
set_option maxRecDepth 100000 in
theorem wf_Mo_22 : Cond.fieldLink "TemplateCallerModel" 22 "TemplateCallerModel" "length" "[I" ∈ WS := List.mem_of_getElem? (i := 690) rfl
set_option maxRecDepth 100000 in
theorem wf_Mo_25 : Cond.fieldLink "TemplateCallerModel" 25 "TemplateCallerModel" "chars" "[I" ∈ WS := List.mem_of_getElem? (i := 691) rfl
set_option maxRecDepth 100000 in
theorem wf_Mo_228 : Cond.fieldLink "TemplateCallerModel" 228 "TemplateCallerModel" "made" "I" ∈ WS := List.mem_of_getElem? (i := 692) rfl
set_option maxRecDepth 100000 in
theorem wf_Mo_28 : Cond.fieldLink "TemplateCallerModel" 28 "TemplateCallerModel" "request" "[I" ∈ WS := List.mem_of_getElem? (i := 693) rfl
set_option maxRecDepth 100000 in
theorem wf_Mo_134 : Cond.fieldLink "TemplateCallerModel" 134 "TemplateCallerModel" "outSize" "I" ∈ WS := List.mem_of_getElem? (i := 694) rfl
set_option maxRecDepth 100000 in
theorem wf_Mo_31 : Cond.fieldLink "TemplateCallerModel" 31 "TemplateCallerModel" "out" "[I" ∈ WS := List.mem_of_getElem? (i := 695) rfl
set_option maxRecDepth 100000 in
theorem wf_Mo_137 : Cond.fieldLink "TemplateCallerModel" 137 "TemplateCallerModel" "asked" "Z" ∈ WS := List.mem_of_getElem? (i := 696) rfl
set_option maxRecDepth 100000 in
theorem wf_Mo_127 : Cond.fieldLink "TemplateCallerModel" 127 "TemplateCallerModel" "aside" "Z" ∈ WS := List.mem_of_getElem? (i := 697) rfl
set_option maxRecDepth 100000 in
theorem wf_Mo_131 : Cond.fieldLink "TemplateCallerModel" 131 "TemplateCallerModel" "bodySize" "I" ∈ WS := List.mem_of_getElem? (i := 698) rfl
set_option maxRecDepth 100000 in
theorem wf_Mo_34 : Cond.fieldLink "TemplateCallerModel" 34 "TemplateCallerModel" "body" "[I" ∈ WS := List.mem_of_getElem? (i := 699) rfl
set_option maxRecDepth 100000 in
theorem wf_Mo_234 : Cond.fieldLink "TemplateCallerModel" 234 "TemplateCallerModel" "fed" "I" ∈ WS := List.mem_of_getElem? (i := 700) rfl
set_option maxRecDepth 100000 in
theorem wf_Mo_37 : Cond.fieldLink "TemplateCallerModel" 37 "TemplateCallerModel" "bytes" "[I" ∈ WS := List.mem_of_getElem? (i := 701) rfl
set_option maxRecDepth 100000 in
theorem wf_Mo_40 : Cond.fieldLink "TemplateCallerModel" 40 "TemplateCallerModel" "verbs" "[I" ∈ WS := List.mem_of_getElem? (i := 702) rfl
set_option maxRecDepth 100000 in
theorem wf_Mo_313 : Cond.fieldLink "TemplateCallerModel" 313 "TemplateCallerModel" "closed" "Z" ∈ WS := List.mem_of_getElem? (i := 703) rfl
set_option maxRecDepth 100000 in
theorem wf_Mo_231 : Cond.fieldLink "TemplateCallerModel" 231 "TemplateCallerModel" "at" "I" ∈ WS := List.mem_of_getElem? (i := 704) rfl
set_option maxRecDepth 100000 in
theorem wf_Mo_237 : Cond.fieldLink "TemplateCallerModel" 237 "TemplateCallerModel" "lineEnd" "I" ∈ WS := List.mem_of_getElem? (i := 705) rfl
set_option maxRecDepth 100000 in
theorem wf_Mo_292 : Cond.fieldLink "TemplateCallerModel" 292 "TemplateCallerModel" "phase" "I" ∈ WS := List.mem_of_getElem? (i := 706) rfl
set_option maxRecDepth 100000 in
theorem wf_Mo_286 : Cond.fieldLink "TemplateCallerModel" 286 "TemplateCallerModel" "code" "I" ∈ WS := List.mem_of_getElem? (i := 707) rfl
set_option maxRecDepth 100000 in
theorem wf_Mo_276 : Cond.fieldLink "TemplateCallerModel" 276 "TemplateCallerModel" "lines" "I" ∈ WS := List.mem_of_getElem? (i := 708) rfl
set_option maxRecDepth 100000 in
theorem wf_Mo_289 : Cond.fieldLink "TemplateCallerModel" 289 "TemplateCallerModel" "got" "I" ∈ WS := List.mem_of_getElem? (i := 709) rfl
set_option maxRecDepth 100000 in
theorem wf_Mo_43 : Cond.fieldLink "TemplateCallerModel" 43 "TemplateCallerModel" "matter" "[I" ∈ WS := List.mem_of_getElem? (i := 710) rfl
set_option maxRecDepth 100000 in
theorem wf_Mo_264 : Cond.fieldLink "TemplateCallerModel" 264 "TemplateCallerModel" "sized" "I" ∈ WS := List.mem_of_getElem? (i := 711) rfl
set_option maxRecDepth 100000 in
theorem wf_Mo_261 : Cond.fieldLink "TemplateCallerModel" 261 "TemplateCallerModel" "chunked" "Z" ∈ WS := List.mem_of_getElem? (i := 712) rfl
set_option maxRecDepth 100000 in
theorem wf_Mo_304 : Cond.fieldLink "TemplateCallerModel" 304 "TemplateCallerModel" "open" "Z" ∈ WS := List.mem_of_getElem? (i := 713) rfl
set_option maxRecDepth 100000 in
theorem wa_int : Cond.arrayClass .int ∈ WS := List.mem_of_getElem? (i := 745) rfl
set_option maxRecDepth 100000 in
theorem wm_Law_17 : Cond.methodLink "TemplateCallerLaw" 17 y_Mo_declare ∈ WS := List.mem_of_getElem? (i := 746) rfl
set_option maxRecDepth 100000 in
theorem wc_Mo_declare : Cond.code y_Mo_declare b_Mo_declare 2 (some .boolean) ∈ WS := List.mem_of_getElem? (i := 749) rfl
set_option maxRecDepth 100000 in
theorem wm_Law_22 : Cond.methodLink "TemplateCallerLaw" 22 y_Mo_template ∈ WS := List.mem_of_getElem? (i := 750) rfl
set_option maxRecDepth 100000 in
theorem wc_Mo_template : Cond.code y_Mo_template b_Mo_template 2 (some .boolean) ∈ WS := List.mem_of_getElem? (i := 753) rfl
set_option maxRecDepth 100000 in
theorem wm_Law_27 : Cond.methodLink "TemplateCallerLaw" 27 y_Mo_parameter ∈ WS := List.mem_of_getElem? (i := 754) rfl
set_option maxRecDepth 100000 in
theorem wc_Mo_parameter : Cond.code y_Mo_parameter b_Mo_parameter 3 (some .int) ∈ WS := List.mem_of_getElem? (i := 757) rfl
set_option maxRecDepth 100000 in
theorem wm_Law_36 : Cond.methodLink "TemplateCallerLaw" 36 y_Mo_item ∈ WS := List.mem_of_getElem? (i := 758) rfl
set_option maxRecDepth 100000 in
theorem wc_Mo_item : Cond.code y_Mo_item b_Mo_item 3 (some .boolean) ∈ WS := List.mem_of_getElem? (i := 761) rfl
set_option maxRecDepth 100000 in
theorem wm_Mo_56 : Cond.methodLink "TemplateCallerModel" 56 y_Mo_isParameter ∈ WS := List.mem_of_getElem? (i := 762) rfl
set_option maxRecDepth 100000 in
theorem wc_Mo_isParameter : Cond.code y_Mo_isParameter b_Mo_isParameter 2 (some .boolean) ∈ WS := List.mem_of_getElem? (i := 764) rfl
set_option maxRecDepth 100000 in
theorem wm_Law_41 : Cond.methodLink "TemplateCallerLaw" 41 y_Mo_write ∈ WS := List.mem_of_getElem? (i := 765) rfl
set_option maxRecDepth 100000 in
theorem wc_Mo_write : Cond.code y_Mo_write b_Mo_write 4 (some .boolean) ∈ WS := List.mem_of_getElem? (i := 768) rfl
set_option maxRecDepth 100000 in
theorem wm_Law_45 : Cond.methodLink "TemplateCallerLaw" 45 y_Mo_empty ∈ WS := List.mem_of_getElem? (i := 769) rfl
set_option maxRecDepth 100000 in
theorem wc_Mo_empty : Cond.code y_Mo_empty b_Mo_empty 2 (some .boolean) ∈ WS := List.mem_of_getElem? (i := 772) rfl
set_option maxRecDepth 100000 in
theorem wm_Law_32 : Cond.methodLink "TemplateCallerLaw" 32 y_Mo_check ∈ WS := List.mem_of_getElem? (i := 773) rfl
set_option maxRecDepth 100000 in
theorem wc_Mo_check : Cond.code y_Mo_check b_Mo_check 3 (some .int) ∈ WS := List.mem_of_getElem? (i := 776) rfl
set_option maxRecDepth 100000 in
theorem wm_Mo_88 : Cond.methodLink "TemplateCallerModel" 88 y_Mo_wellFormed ∈ WS := List.mem_of_getElem? (i := 777) rfl
set_option maxRecDepth 100000 in
theorem wc_Mo_wellFormed : Cond.code y_Mo_wellFormed b_Mo_wellFormed 3 (some .boolean) ∈ WS := List.mem_of_getElem? (i := 779) rfl
set_option maxRecDepth 100000 in
theorem wm_Mo_76 : Cond.methodLink "TemplateCallerModel" 76 y_Mo_behind ∈ WS := List.mem_of_getElem? (i := 780) rfl
set_option maxRecDepth 100000 in
theorem wc_Mo_behind : Cond.code y_Mo_behind b_Mo_behind 4 (some .int) ∈ WS := List.mem_of_getElem? (i := 782) rfl
set_option maxRecDepth 100000 in
theorem wm_Mo_69 : Cond.methodLink "TemplateCallerModel" 69 y_Mo_character ∈ WS := List.mem_of_getElem? (i := 783) rfl
set_option maxRecDepth 100000 in
theorem wc_Mo_character : Cond.code y_Mo_character b_Mo_character 2 (some .int) ∈ WS := List.mem_of_getElem? (i := 785) rfl
set_option maxRecDepth 100000 in
theorem wm_Mo_73 : Cond.methodLink "TemplateCallerModel" 73 y_Mo_operator ∈ WS := List.mem_of_getElem? (i := 786) rfl
set_option maxRecDepth 100000 in
theorem wc_Mo_operator : Cond.code y_Mo_operator b_Mo_operator 1 (some .boolean) ∈ WS := List.mem_of_getElem? (i := 788) rfl
set_option maxRecDepth 100000 in
theorem wm_Mo_60 : Cond.methodLink "TemplateCallerModel" 60 y_Mo_small ∈ WS := List.mem_of_getElem? (i := 789) rfl
set_option maxRecDepth 100000 in
theorem wc_Mo_small : Cond.code y_Mo_small b_Mo_small 1 (some .boolean) ∈ WS := List.mem_of_getElem? (i := 791) rfl
set_option maxRecDepth 100000 in
theorem wm_Mo_79 : Cond.methodLink "TemplateCallerModel" 79 y_Mo_plain ∈ WS := List.mem_of_getElem? (i := 792) rfl
set_option maxRecDepth 100000 in
theorem wc_Mo_plain : Cond.code y_Mo_plain b_Mo_plain 1 (some .boolean) ∈ WS := List.mem_of_getElem? (i := 794) rfl
set_option maxRecDepth 100000 in
theorem wm_Mo_66 : Cond.methodLink "TemplateCallerModel" 66 y_Mo_letterOrDigit ∈ WS := List.mem_of_getElem? (i := 795) rfl
set_option maxRecDepth 100000 in
theorem wc_Mo_letterOrDigit : Cond.code y_Mo_letterOrDigit b_Mo_letterOrDigit 1 (some .boolean) ∈ WS := List.mem_of_getElem? (i := 797) rfl
set_option maxRecDepth 100000 in
theorem wm_Mo_63 : Cond.methodLink "TemplateCallerModel" 63 y_Mo_digit ∈ WS := List.mem_of_getElem? (i := 798) rfl
set_option maxRecDepth 100000 in
theorem wc_Mo_digit : Cond.code y_Mo_digit b_Mo_digit 1 (some .boolean) ∈ WS := List.mem_of_getElem? (i := 800) rfl
set_option maxRecDepth 100000 in
theorem wm_Mo_92 : Cond.methodLink "TemplateCallerModel" 92 y_Mo_unknown ∈ WS := List.mem_of_getElem? (i := 801) rfl
set_option maxRecDepth 100000 in
theorem wc_Mo_unknown : Cond.code y_Mo_unknown b_Mo_unknown 3 (some .boolean) ∈ WS := List.mem_of_getElem? (i := 803) rfl
set_option maxRecDepth 100000 in
theorem wm_Mo_82 : Cond.methodLink "TemplateCallerModel" 82 y_Mo_variableAt ∈ WS := List.mem_of_getElem? (i := 804) rfl
set_option maxRecDepth 100000 in
theorem wc_Mo_variableAt : Cond.code y_Mo_variableAt b_Mo_variableAt 4 (some .boolean) ∈ WS := List.mem_of_getElem? (i := 806) rfl
set_option maxRecDepth 100000 in
theorem wm_Mo_85 : Cond.methodLink "TemplateCallerModel" 85 y_Mo_named ∈ WS := List.mem_of_getElem? (i := 807) rfl
set_option maxRecDepth 100000 in
theorem wc_Mo_named : Cond.code y_Mo_named b_Mo_named 4 (some .int) ∈ WS := List.mem_of_getElem? (i := 809) rfl
set_option maxRecDepth 100000 in
theorem wm_Mo_95 : Cond.methodLink "TemplateCallerModel" 95 y_Mo_twice ∈ WS := List.mem_of_getElem? (i := 810) rfl
set_option maxRecDepth 100000 in
theorem wc_Mo_twice : Cond.code y_Mo_twice b_Mo_twice 3 (some .boolean) ∈ WS := List.mem_of_getElem? (i := 812) rfl
set_option maxRecDepth 100000 in
theorem wm_Mo_98 : Cond.methodLink "TemplateCallerModel" 98 y_Mo_unused ∈ WS := List.mem_of_getElem? (i := 813) rfl
set_option maxRecDepth 100000 in
theorem wc_Mo_unused : Cond.code y_Mo_unused b_Mo_unused 5 (some .boolean) ∈ WS := List.mem_of_getElem? (i := 815) rfl
set_option maxRecDepth 100000 in
theorem wm_Mo_101 : Cond.methodLink "TemplateCallerModel" 101 y_Mo_cutList ∈ WS := List.mem_of_getElem? (i := 816) rfl
set_option maxRecDepth 100000 in
theorem wc_Mo_cutList : Cond.code y_Mo_cutList b_Mo_cutList 4 (some .boolean) ∈ WS := List.mem_of_getElem? (i := 818) rfl
set_option maxRecDepth 100000 in
theorem wm_Mo_104 : Cond.methodLink "TemplateCallerModel" 104 y_Mo_kinds ∈ WS := List.mem_of_getElem? (i := 819) rfl
set_option maxRecDepth 100000 in
theorem wc_Mo_kinds : Cond.code y_Mo_kinds b_Mo_kinds 4 (some .int) ∈ WS := List.mem_of_getElem? (i := 821) rfl
set_option maxRecDepth 100000 in
theorem wm_Law_49 : Cond.methodLink "TemplateCallerLaw" 49 y_Mo_send ∈ WS := List.mem_of_getElem? (i := 822) rfl
set_option maxRecDepth 100000 in
theorem wc_Mo_send : Cond.code y_Mo_send b_Mo_send 3 (some .int) ∈ WS := List.mem_of_getElem? (i := 825) rfl
set_option maxRecDepth 100000 in
theorem wm_Mo_191 : Cond.methodLink "TemplateCallerModel" 191 y_Mo_check ∈ WS := List.mem_of_getElem? (i := 826) rfl
set_option maxRecDepth 100000 in
theorem wm_Mo_195 : Cond.methodLink "TemplateCallerModel" 195 y_Mo_itemFault ∈ WS := List.mem_of_getElem? (i := 827) rfl
set_option maxRecDepth 100000 in
theorem wc_Mo_itemFault : Cond.code y_Mo_itemFault b_Mo_itemFault 5 (some .int) ∈ WS := List.mem_of_getElem? (i := 829) rfl
set_option maxRecDepth 100000 in
theorem wm_Mo_121 : Cond.methodLink "TemplateCallerModel" 121 y_Mo_loneIn ∈ WS := List.mem_of_getElem? (i := 830) rfl
set_option maxRecDepth 100000 in
theorem wc_Mo_loneIn : Cond.code y_Mo_loneIn b_Mo_loneIn 5 (some .boolean) ∈ WS := List.mem_of_getElem? (i := 832) rfl
set_option maxRecDepth 100000 in
theorem wm_Mo_111 : Cond.methodLink "TemplateCallerModel" 111 y_Mo_high ∈ WS := List.mem_of_getElem? (i := 833) rfl
set_option maxRecDepth 100000 in
theorem wc_Mo_high : Cond.code y_Mo_high b_Mo_high 1 (some .boolean) ∈ WS := List.mem_of_getElem? (i := 835) rfl
set_option maxRecDepth 100000 in
theorem wk_Mo_107 : Cond.constant "TemplateCallerModel" 107 55296 ∈ WS := List.mem_of_getElem? (i := 836) rfl
set_option maxRecDepth 100000 in
theorem wk_Mo_108 : Cond.constant "TemplateCallerModel" 108 56319 ∈ WS := List.mem_of_getElem? (i := 837) rfl
set_option maxRecDepth 100000 in
theorem wm_Mo_117 : Cond.methodLink "TemplateCallerModel" 117 y_Mo_pair ∈ WS := List.mem_of_getElem? (i := 838) rfl
set_option maxRecDepth 100000 in
theorem wc_Mo_pair : Cond.code y_Mo_pair b_Mo_pair 3 (some .boolean) ∈ WS := List.mem_of_getElem? (i := 840) rfl
set_option maxRecDepth 100000 in
theorem wm_Mo_114 : Cond.methodLink "TemplateCallerModel" 114 y_Mo_low ∈ WS := List.mem_of_getElem? (i := 841) rfl
set_option maxRecDepth 100000 in
theorem wc_Mo_low : Cond.code y_Mo_low b_Mo_low 1 (some .boolean) ∈ WS := List.mem_of_getElem? (i := 843) rfl
set_option maxRecDepth 100000 in
theorem wk_Mo_109 : Cond.constant "TemplateCallerModel" 109 56320 ∈ WS := List.mem_of_getElem? (i := 844) rfl
set_option maxRecDepth 100000 in
theorem wk_Mo_110 : Cond.constant "TemplateCallerModel" 110 57343 ∈ WS := List.mem_of_getElem? (i := 845) rfl
set_option maxRecDepth 100000 in
theorem wm_Mo_124 : Cond.methodLink "TemplateCallerModel" 124 y_Mo_unfitIn ∈ WS := List.mem_of_getElem? (i := 846) rfl
set_option maxRecDepth 100000 in
theorem wc_Mo_unfitIn : Cond.code y_Mo_unfitIn b_Mo_unfitIn 6 (some .boolean) ∈ WS := List.mem_of_getElem? (i := 848) rfl
set_option maxRecDepth 100000 in
theorem wm_Mo_198 : Cond.methodLink "TemplateCallerModel" 198 y_Mo_compose ∈ WS := List.mem_of_getElem? (i := 849) rfl
set_option maxRecDepth 100000 in
theorem wc_Mo_compose : Cond.code y_Mo_compose b_Mo_compose 3 none ∈ WS := List.mem_of_getElem? (i := 851) rfl
set_option maxRecDepth 100000 in
theorem wm_Mo_164 : Cond.methodLink "TemplateCallerModel" 164 y_Mo_encode ∈ WS := List.mem_of_getElem? (i := 852) rfl
set_option maxRecDepth 100000 in
theorem wc_Mo_encode : Cond.code y_Mo_encode b_Mo_encode 8 none ∈ WS := List.mem_of_getElem? (i := 854) rfl
set_option maxRecDepth 100000 in
theorem wm_Mo_155 : Cond.methodLink "TemplateCallerModel" 155 y_Mo_hex ∈ WS := List.mem_of_getElem? (i := 855) rfl
set_option maxRecDepth 100000 in
theorem wc_Mo_hex : Cond.code y_Mo_hex b_Mo_hex 1 (some .boolean) ∈ WS := List.mem_of_getElem? (i := 857) rfl
set_option maxRecDepth 100000 in
theorem wk_Mo_153 : Cond.constant "TemplateCallerModel" 153 65536 ∈ WS := List.mem_of_getElem? (i := 858) rfl
set_option maxRecDepth 100000 in
theorem wm_Mo_158 : Cond.methodLink "TemplateCallerModel" 158 y_Mo_utf ∈ WS := List.mem_of_getElem? (i := 859) rfl
set_option maxRecDepth 100000 in
theorem wc_Mo_utf : Cond.code y_Mo_utf b_Mo_utf 3 none ∈ WS := List.mem_of_getElem? (i := 861) rfl
set_option maxRecDepth 100000 in
theorem wm_Mo_149 : Cond.methodLink "TemplateCallerModel" 149 y_Mo_single ∈ WS := List.mem_of_getElem? (i := 862) rfl
set_option maxRecDepth 100000 in
theorem wc_Mo_single : Cond.code y_Mo_single b_Mo_single 3 none ∈ WS := List.mem_of_getElem? (i := 864) rfl
set_option maxRecDepth 100000 in
theorem wm_Mo_142 : Cond.methodLink "TemplateCallerModel" 142 y_Mo_put ∈ WS := List.mem_of_getElem? (i := 865) rfl
set_option maxRecDepth 100000 in
theorem wc_Mo_put : Cond.code y_Mo_put b_Mo_put 2 none ∈ WS := List.mem_of_getElem? (i := 867) rfl
set_option maxRecDepth 100000 in
theorem wm_Mo_146 : Cond.methodLink "TemplateCallerModel" 146 y_Mo_hexadecimal ∈ WS := List.mem_of_getElem? (i := 868) rfl
set_option maxRecDepth 100000 in
theorem wc_Mo_hexadecimal : Cond.code y_Mo_hexadecimal b_Mo_hexadecimal 2 none ∈ WS := List.mem_of_getElem? (i := 870) rfl
set_option maxRecDepth 100000 in
theorem wk_Mo_154 : Cond.constant "TemplateCallerModel" 154 262144 ∈ WS := List.mem_of_getElem? (i := 871) rfl
set_option maxRecDepth 100000 in
theorem wm_Mo_161 : Cond.methodLink "TemplateCallerModel" 161 y_Mo_loose ∈ WS := List.mem_of_getElem? (i := 872) rfl
set_option maxRecDepth 100000 in
theorem wc_Mo_loose : Cond.code y_Mo_loose b_Mo_loose 1 (some .boolean) ∈ WS := List.mem_of_getElem? (i := 874) rfl
set_option maxRecDepth 100000 in
theorem wk_Mo_201 : Cond.constantLong "TemplateCallerModel" 201 5522759 ∈ WS := List.mem_of_getElem? (i := 875) rfl
set_option maxRecDepth 100000 in
theorem wk_Mo_203 : Cond.constantLong "TemplateCallerModel" 203 1145128264 ∈ WS := List.mem_of_getElem? (i := 876) rfl
set_option maxRecDepth 100000 in
theorem wk_Mo_205 : Cond.constantLong "TemplateCallerModel" 205 1414745936 ∈ WS := List.mem_of_getElem? (i := 877) rfl
set_option maxRecDepth 100000 in
theorem wk_Mo_207 : Cond.constantLong "TemplateCallerModel" 207 5526864 ∈ WS := List.mem_of_getElem? (i := 878) rfl
set_option maxRecDepth 100000 in
theorem wk_Mo_209 : Cond.constantLong "TemplateCallerModel" 209 76228242195780 ∈ WS := List.mem_of_getElem? (i := 879) rfl
set_option maxRecDepth 100000 in
theorem wm_Mo_180 : Cond.methodLink "TemplateCallerModel" 180 y_Mo_spell ∈ WS := List.mem_of_getElem? (i := 880) rfl
set_option maxRecDepth 100000 in
theorem wc_Mo_spell : Cond.code y_Mo_spell b_Mo_spell 5 none ∈ WS := List.mem_of_getElem? (i := 882) rfl
set_option maxRecDepth 100000 in
theorem wk_Mo_140 : Cond.constantLong "TemplateCallerModel" 140 255 ∈ WS := List.mem_of_getElem? (i := 883) rfl
set_option maxRecDepth 100000 in
theorem wm_Mo_211 : Cond.methodLink "TemplateCallerModel" 211 y_Mo_target ∈ WS := List.mem_of_getElem? (i := 884) rfl
set_option maxRecDepth 100000 in
theorem wc_Mo_target : Cond.code y_Mo_target b_Mo_target 4 none ∈ WS := List.mem_of_getElem? (i := 886) rfl
set_option maxRecDepth 100000 in
theorem wm_Mo_175 : Cond.methodLink "TemplateCallerModel" 175 y_Mo_expression ∈ WS := List.mem_of_getElem? (i := 887) rfl
set_option maxRecDepth 100000 in
theorem wc_Mo_expression : Cond.code y_Mo_expression b_Mo_expression 10 none ∈ WS := List.mem_of_getElem? (i := 889) rfl
set_option maxRecDepth 100000 in
theorem wm_Mo_168 : Cond.methodLink "TemplateCallerModel" 168 y_Mo_between ∈ WS := List.mem_of_getElem? (i := 890) rfl
set_option maxRecDepth 100000 in
theorem wc_Mo_between : Cond.code y_Mo_between b_Mo_between 2 none ∈ WS := List.mem_of_getElem? (i := 892) rfl
set_option maxRecDepth 100000 in
theorem wm_Mo_171 : Cond.methodLink "TemplateCallerModel" 171 y_Mo_give ∈ WS := List.mem_of_getElem? (i := 893) rfl
set_option maxRecDepth 100000 in
theorem wc_Mo_give : Cond.code y_Mo_give b_Mo_give 8 none ∈ WS := List.mem_of_getElem? (i := 895) rfl
set_option maxRecDepth 100000 in
theorem wk_Mo_214 : Cond.constantLong "TemplateCallerModel" 214 3543824036068086856 ∈ WS := List.mem_of_getElem? (i := 896) rfl
set_option maxRecDepth 100000 in
theorem wm_Mo_188 : Cond.methodLink "TemplateCallerModel" 188 y_Mo_end ∈ WS := List.mem_of_getElem? (i := 897) rfl
set_option maxRecDepth 100000 in
theorem wc_Mo_end : Cond.code y_Mo_end b_Mo_end 1 none ∈ WS := List.mem_of_getElem? (i := 899) rfl
set_option maxRecDepth 100000 in
theorem wk_Mo_216 : Cond.constantLong "TemplateCallerModel" 216 29308833011822440 ∈ WS := List.mem_of_getElem? (i := 900) rfl
set_option maxRecDepth 100000 in
theorem wm_Mo_218 : Cond.methodLink "TemplateCallerModel" 218 y_Mo_headers ∈ WS := List.mem_of_getElem? (i := 901) rfl
set_option maxRecDepth 100000 in
theorem wc_Mo_headers : Cond.code y_Mo_headers b_Mo_headers 3 none ∈ WS := List.mem_of_getElem? (i := 903) rfl
set_option maxRecDepth 100000 in
theorem wk_Mo_178 : Cond.constantLong "TemplateCallerModel" 178 11640 ∈ WS := List.mem_of_getElem? (i := 904) rfl
set_option maxRecDepth 100000 in
theorem wk_Mo_184 : Cond.constantLong "TemplateCallerModel" 184 8250 ∈ WS := List.mem_of_getElem? (i := 905) rfl
set_option maxRecDepth 100000 in
theorem wk_Mo_186 : Cond.constantLong "TemplateCallerModel" 186 8236 ∈ WS := List.mem_of_getElem? (i := 906) rfl
set_option maxRecDepth 100000 in
theorem wk_Mo_221 : Cond.constantLong "TemplateCallerModel" 221 3275364211029340003 ∈ WS := List.mem_of_getElem? (i := 907) rfl
set_option maxRecDepth 100000 in
theorem wk_Mo_223 : Cond.constantLong "TemplateCallerModel" 223 2322283407023695212 ∈ WS := List.mem_of_getElem? (i := 908) rfl
set_option maxRecDepth 100000 in
theorem wm_Mo_225 : Cond.methodLink "TemplateCallerModel" 225 y_Mo_number ∈ WS := List.mem_of_getElem? (i := 909) rfl
set_option maxRecDepth 100000 in
theorem wc_Mo_number : Cond.code y_Mo_number b_Mo_number 3 none ∈ WS := List.mem_of_getElem? (i := 911) rfl
set_option maxRecDepth 100000 in
theorem wm_Law_54 : Cond.methodLink "TemplateCallerLaw" 54 y_Mo_sent ∈ WS := List.mem_of_getElem? (i := 912) rfl
set_option maxRecDepth 100000 in
theorem wc_Mo_sent : Cond.code y_Mo_sent b_Mo_sent 2 (some .int) ∈ WS := List.mem_of_getElem? (i := 915) rfl
set_option maxRecDepth 100000 in
theorem wm_Law_58 : Cond.methodLink "TemplateCallerLaw" 58 y_Mo_feed ∈ WS := List.mem_of_getElem? (i := 916) rfl
set_option maxRecDepth 100000 in
theorem wc_Mo_feed : Cond.code y_Mo_feed b_Mo_feed 2 (some .int) ∈ WS := List.mem_of_getElem? (i := 919) rfl
set_option maxRecDepth 100000 in
theorem wm_Mo_316 : Cond.methodLink "TemplateCallerModel" 316 y_Mo_work ∈ WS := List.mem_of_getElem? (i := 920) rfl
set_option maxRecDepth 100000 in
theorem wc_Mo_work : Cond.code y_Mo_work b_Mo_work 3 none ∈ WS := List.mem_of_getElem? (i := 922) rfl
set_option maxRecDepth 100000 in
theorem wm_Mo_307 : Cond.methodLink "TemplateCallerModel" 307 y_Mo_head ∈ WS := List.mem_of_getElem? (i := 923) rfl
set_option maxRecDepth 100000 in
theorem wc_Mo_head : Cond.code y_Mo_head b_Mo_head 3 (some .int) ∈ WS := List.mem_of_getElem? (i := 925) rfl
set_option maxRecDepth 100000 in
theorem wm_Mo_269 : Cond.methodLink "TemplateCallerModel" 269 y_Mo_line ∈ WS := List.mem_of_getElem? (i := 926) rfl
set_option maxRecDepth 100000 in
theorem wc_Mo_line : Cond.code y_Mo_line b_Mo_line 3 (some .int) ∈ WS := List.mem_of_getElem? (i := 928) rfl
set_option maxRecDepth 100000 in
theorem wm_Mo_279 : Cond.methodLink "TemplateCallerModel" 279 y_Mo_statusLine ∈ WS := List.mem_of_getElem? (i := 929) rfl
set_option maxRecDepth 100000 in
theorem wc_Mo_statusLine : Cond.code y_Mo_statusLine b_Mo_statusLine 5 (some .int) ∈ WS := List.mem_of_getElem? (i := 931) rfl
set_option maxRecDepth 100000 in
theorem wk_Mo_243 : Cond.constantLong "TemplateCallerModel" 243 825110831 ∈ WS := List.mem_of_getElem? (i := 932) rfl
set_option maxRecDepth 100000 in
theorem wm_Mo_245 : Cond.methodLink "TemplateCallerModel" 245 y_Mo_spelt ∈ WS := List.mem_of_getElem? (i := 933) rfl
set_option maxRecDepth 100000 in
theorem wc_Mo_spelt : Cond.code y_Mo_spelt b_Mo_spelt 14 (some .boolean) ∈ WS := List.mem_of_getElem? (i := 935) rfl
set_option maxRecDepth 100000 in
theorem wm_Mo_240 : Cond.methodLink "TemplateCallerModel" 240 y_Mo_lower ∈ WS := List.mem_of_getElem? (i := 936) rfl
set_option maxRecDepth 100000 in
theorem wc_Mo_lower : Cond.code y_Mo_lower b_Mo_lower 1 (some .int) ∈ WS := List.mem_of_getElem? (i := 938) rfl
set_option maxRecDepth 100000 in
theorem wm_Mo_282 : Cond.methodLink "TemplateCallerModel" 282 y_Mo_fieldLines ∈ WS := List.mem_of_getElem? (i := 939) rfl
set_option maxRecDepth 100000 in
theorem wc_Mo_fieldLines : Cond.code y_Mo_fieldLines b_Mo_fieldLines 4 (some .int) ∈ WS := List.mem_of_getElem? (i := 941) rfl
set_option maxRecDepth 100000 in
theorem wm_Mo_272 : Cond.methodLink "TemplateCallerModel" 272 y_Mo_fieldLine ∈ WS := List.mem_of_getElem? (i := 942) rfl
set_option maxRecDepth 100000 in
theorem wc_Mo_fieldLine : Cond.code y_Mo_fieldLine b_Mo_fieldLine 8 (some .boolean) ∈ WS := List.mem_of_getElem? (i := 944) rfl
set_option maxRecDepth 100000 in
theorem wk_Mo_249 : Cond.constantLong "TemplateCallerModel" 249 114849160783212 ∈ WS := List.mem_of_getElem? (i := 945) rfl
set_option maxRecDepth 100000 in
theorem wk_Mo_251 : Cond.constantLong "TemplateCallerModel" 251 8243107338930713204 ∈ WS := List.mem_of_getElem? (i := 946) rfl
set_option maxRecDepth 100000 in
theorem wk_Mo_253 : Cond.constantLong "TemplateCallerModel" 253 7956000646299018541 ∈ WS := List.mem_of_getElem? (i := 947) rfl
set_option maxRecDepth 100000 in
theorem wk_Mo_255 : Cond.constantLong "TemplateCallerModel" 255 103 ∈ WS := List.mem_of_getElem? (i := 948) rfl
set_option maxRecDepth 100000 in
theorem wm_Mo_257 : Cond.methodLink "TemplateCallerModel" 257 y_Mo_counted ∈ WS := List.mem_of_getElem? (i := 949) rfl
set_option maxRecDepth 100000 in
theorem wc_Mo_counted : Cond.code y_Mo_counted b_Mo_counted 6 (some .int) ∈ WS := List.mem_of_getElem? (i := 951) rfl
set_option maxRecDepth 100000 in
theorem wk_Mo_267 : Cond.constantLong "TemplateCallerModel" 267 28259009760159843 ∈ WS := List.mem_of_getElem? (i := 952) rfl
set_option maxRecDepth 100000 in
theorem wm_Mo_310 : Cond.methodLink "TemplateCallerModel" 310 y_Mo_after ∈ WS := List.mem_of_getElem? (i := 953) rfl
set_option maxRecDepth 100000 in
theorem wc_Mo_after : Cond.code y_Mo_after b_Mo_after 2 none ∈ WS := List.mem_of_getElem? (i := 955) rfl
set_option maxRecDepth 100000 in
theorem wm_Mo_301 : Cond.methodLink "TemplateCallerModel" 301 y_Mo_chunks ∈ WS := List.mem_of_getElem? (i := 956) rfl
set_option maxRecDepth 100000 in
theorem wc_Mo_chunks : Cond.code y_Mo_chunks b_Mo_chunks 5 none ∈ WS := List.mem_of_getElem? (i := 958) rfl
set_option maxRecDepth 100000 in
theorem wm_Mo_295 : Cond.methodLink "TemplateCallerModel" 295 y_Mo_chunkSize ∈ WS := List.mem_of_getElem? (i := 959) rfl
set_option maxRecDepth 100000 in
theorem wc_Mo_chunkSize : Cond.code y_Mo_chunkSize b_Mo_chunkSize 4 (some .int) ∈ WS := List.mem_of_getElem? (i := 961) rfl
set_option maxRecDepth 100000 in
theorem wm_Mo_298 : Cond.methodLink "TemplateCallerModel" 298 y_Mo_take ∈ WS := List.mem_of_getElem? (i := 962) rfl
set_option maxRecDepth 100000 in
theorem wc_Mo_take : Cond.code y_Mo_take b_Mo_take 3 (some .boolean) ∈ WS := List.mem_of_getElem? (i := 964) rfl
set_option maxRecDepth 100000 in
theorem wm_Law_62 : Cond.methodLink "TemplateCallerLaw" 62 y_Mo_close ∈ WS := List.mem_of_getElem? (i := 965) rfl
set_option maxRecDepth 100000 in
theorem wc_Mo_close : Cond.code y_Mo_close b_Mo_close 1 (some .int) ∈ WS := List.mem_of_getElem? (i := 968) rfl
set_option maxRecDepth 100000 in
theorem wm_Law_66 : Cond.methodLink "TemplateCallerLaw" 66 y_Mo_reset ∈ WS := List.mem_of_getElem? (i := 969) rfl
set_option maxRecDepth 100000 in
theorem wc_Mo_reset : Cond.code y_Mo_reset b_Mo_reset 1 none ∈ WS := List.mem_of_getElem? (i := 972) rfl
set_option maxRecDepth 100000 in
theorem wm_Law_70 : Cond.methodLink "TemplateCallerLaw" 70 y_Mo_state ∈ WS := List.mem_of_getElem? (i := 973) rfl
set_option maxRecDepth 100000 in
theorem wc_Mo_state : Cond.code y_Mo_state b_Mo_state 1 (some .int) ∈ WS := List.mem_of_getElem? (i := 976) rfl
set_option maxRecDepth 100000 in
theorem wm_Law_74 : Cond.methodLink "TemplateCallerLaw" 74 y_Mo_status ∈ WS := List.mem_of_getElem? (i := 977) rfl
set_option maxRecDepth 100000 in
theorem wc_Mo_status : Cond.code y_Mo_status b_Mo_status 1 (some .int) ∈ WS := List.mem_of_getElem? (i := 980) rfl
set_option maxRecDepth 100000 in
theorem wm_Law_78 : Cond.methodLink "TemplateCallerLaw" 78 y_Mo_fields ∈ WS := List.mem_of_getElem? (i := 981) rfl
set_option maxRecDepth 100000 in
theorem wc_Mo_fields : Cond.code y_Mo_fields b_Mo_fields 1 (some .int) ∈ WS := List.mem_of_getElem? (i := 984) rfl
set_option maxRecDepth 100000 in
theorem wm_Law_82 : Cond.methodLink "TemplateCallerLaw" 82 y_Mo_length ∈ WS := List.mem_of_getElem? (i := 985) rfl
set_option maxRecDepth 100000 in
theorem wc_Mo_length : Cond.code y_Mo_length b_Mo_length 1 (some .int) ∈ WS := List.mem_of_getElem? (i := 988) rfl
set_option maxRecDepth 100000 in
theorem wm_Law_86 : Cond.methodLink "TemplateCallerLaw" 86 y_Mo_content ∈ WS := List.mem_of_getElem? (i := 989) rfl
set_option maxRecDepth 100000 in
theorem wc_Mo_content : Cond.code y_Mo_content b_Mo_content 2 (some .int) ∈ WS := List.mem_of_getElem? (i := 992) rfl
set_option maxRecDepth 100000 in
theorem wf_String_15 : Cond.fieldLink "java/lang/String" 15 "java/lang/String" "coder" "B" ∈ WS := List.mem_of_getElem? (i := 993) rfl
set_option maxRecDepth 100000 in
theorem wf_String_9 : Cond.fieldLink "java/lang/String" 9 "java/lang/String" "value" "[B" ∈ WS := List.mem_of_getElem? (i := 994) rfl
theorem wi_TC_init : Cond.instanceMethod y_TC_init ∈ WS := List.mem_of_getElem? (i := 23) rfl
theorem wi_TC_declare : Cond.instanceMethod y_TC_declare ∈ WS ∧ Cond.selects y_TC_declare.cls y_TC_declare y_TC_declare ∈ WS ∧ Cond.initialized y_TC_declare.cls ∈ WS := ⟨List.mem_of_getElem? (i := 173) rfl, List.mem_of_getElem? (i := 174) rfl, List.mem_of_getElem? (i := 1) rfl⟩
theorem wi_TC_template : Cond.instanceMethod y_TC_template ∈ WS ∧ Cond.selects y_TC_template.cls y_TC_template y_TC_template ∈ WS ∧ Cond.initialized y_TC_template.cls ∈ WS := ⟨List.mem_of_getElem? (i := 181) rfl, List.mem_of_getElem? (i := 182) rfl, List.mem_of_getElem? (i := 1) rfl⟩
theorem wi_TC_parameter : Cond.instanceMethod y_TC_parameter ∈ WS ∧ Cond.selects y_TC_parameter.cls y_TC_parameter y_TC_parameter ∈ WS ∧ Cond.initialized y_TC_parameter.cls ∈ WS := ⟨List.mem_of_getElem? (i := 189) rfl, List.mem_of_getElem? (i := 190) rfl, List.mem_of_getElem? (i := 1) rfl⟩
theorem wi_TC_check : Cond.instanceMethod y_TC_check ∈ WS ∧ Cond.selects y_TC_check.cls y_TC_check y_TC_check ∈ WS ∧ Cond.initialized y_TC_check.cls ∈ WS := ⟨List.mem_of_getElem? (i := 204) rfl, List.mem_of_getElem? (i := 205) rfl, List.mem_of_getElem? (i := 1) rfl⟩
set_option maxRecDepth 100000 in
theorem wi_TC_item : Cond.instanceMethod y_TC_item ∈ WS ∧ Cond.selects y_TC_item.cls y_TC_item y_TC_item ∈ WS ∧ Cond.initialized y_TC_item.cls ∈ WS := ⟨List.mem_of_getElem? (i := 320) rfl, List.mem_of_getElem? (i := 321) rfl, List.mem_of_getElem? (i := 1) rfl⟩
set_option maxRecDepth 100000 in
theorem wi_TC_write : Cond.instanceMethod y_TC_write ∈ WS ∧ Cond.selects y_TC_write.cls y_TC_write y_TC_write ∈ WS ∧ Cond.initialized y_TC_write.cls ∈ WS := ⟨List.mem_of_getElem? (i := 332) rfl, List.mem_of_getElem? (i := 333) rfl, List.mem_of_getElem? (i := 1) rfl⟩
set_option maxRecDepth 100000 in
theorem wi_TC_empty : Cond.instanceMethod y_TC_empty ∈ WS ∧ Cond.selects y_TC_empty.cls y_TC_empty y_TC_empty ∈ WS ∧ Cond.initialized y_TC_empty.cls ∈ WS := ⟨List.mem_of_getElem? (i := 344) rfl, List.mem_of_getElem? (i := 345) rfl, List.mem_of_getElem? (i := 1) rfl⟩
set_option maxRecDepth 100000 in
theorem wi_TC_send : Cond.instanceMethod y_TC_send ∈ WS ∧ Cond.selects y_TC_send.cls y_TC_send y_TC_send ∈ WS ∧ Cond.initialized y_TC_send.cls ∈ WS := ⟨List.mem_of_getElem? (i := 352) rfl, List.mem_of_getElem? (i := 353) rfl, List.mem_of_getElem? (i := 1) rfl⟩
set_option maxRecDepth 100000 in
theorem wi_TC_sent : Cond.instanceMethod y_TC_sent ∈ WS ∧ Cond.selects y_TC_sent.cls y_TC_sent y_TC_sent ∈ WS ∧ Cond.initialized y_TC_sent.cls ∈ WS := ⟨List.mem_of_getElem? (i := 525) rfl, List.mem_of_getElem? (i := 526) rfl, List.mem_of_getElem? (i := 1) rfl⟩
set_option maxRecDepth 100000 in
theorem wi_TC_feed : Cond.instanceMethod y_TC_feed ∈ WS ∧ Cond.selects y_TC_feed.cls y_TC_feed y_TC_feed ∈ WS ∧ Cond.initialized y_TC_feed.cls ∈ WS := ⟨List.mem_of_getElem? (i := 533) rfl, List.mem_of_getElem? (i := 534) rfl, List.mem_of_getElem? (i := 1) rfl⟩
set_option maxRecDepth 100000 in
theorem wi_TC_close : Cond.instanceMethod y_TC_close ∈ WS ∧ Cond.selects y_TC_close.cls y_TC_close y_TC_close ∈ WS ∧ Cond.initialized y_TC_close.cls ∈ WS := ⟨List.mem_of_getElem? (i := 645) rfl, List.mem_of_getElem? (i := 646) rfl, List.mem_of_getElem? (i := 1) rfl⟩
set_option maxRecDepth 100000 in
theorem wi_TC_reset : Cond.instanceMethod y_TC_reset ∈ WS ∧ Cond.selects y_TC_reset.cls y_TC_reset y_TC_reset ∈ WS ∧ Cond.initialized y_TC_reset.cls ∈ WS := ⟨List.mem_of_getElem? (i := 653) rfl, List.mem_of_getElem? (i := 654) rfl, List.mem_of_getElem? (i := 1) rfl⟩
set_option maxRecDepth 100000 in
theorem wi_TC_state : Cond.instanceMethod y_TC_state ∈ WS ∧ Cond.selects y_TC_state.cls y_TC_state y_TC_state ∈ WS ∧ Cond.initialized y_TC_state.cls ∈ WS := ⟨List.mem_of_getElem? (i := 658) rfl, List.mem_of_getElem? (i := 659) rfl, List.mem_of_getElem? (i := 1) rfl⟩
set_option maxRecDepth 100000 in
theorem wi_TC_status : Cond.instanceMethod y_TC_status ∈ WS ∧ Cond.selects y_TC_status.cls y_TC_status y_TC_status ∈ WS ∧ Cond.initialized y_TC_status.cls ∈ WS := ⟨List.mem_of_getElem? (i := 662) rfl, List.mem_of_getElem? (i := 663) rfl, List.mem_of_getElem? (i := 1) rfl⟩
set_option maxRecDepth 100000 in
theorem wi_TC_fields : Cond.instanceMethod y_TC_fields ∈ WS ∧ Cond.selects y_TC_fields.cls y_TC_fields y_TC_fields ∈ WS ∧ Cond.initialized y_TC_fields.cls ∈ WS := ⟨List.mem_of_getElem? (i := 666) rfl, List.mem_of_getElem? (i := 667) rfl, List.mem_of_getElem? (i := 1) rfl⟩
set_option maxRecDepth 100000 in
theorem wi_TC_length : Cond.instanceMethod y_TC_length ∈ WS ∧ Cond.selects y_TC_length.cls y_TC_length y_TC_length ∈ WS ∧ Cond.initialized y_TC_length.cls ∈ WS := ⟨List.mem_of_getElem? (i := 670) rfl, List.mem_of_getElem? (i := 671) rfl, List.mem_of_getElem? (i := 1) rfl⟩
set_option maxRecDepth 100000 in
theorem wi_TC_content : Cond.instanceMethod y_TC_content ∈ WS ∧ Cond.selects y_TC_content.cls y_TC_content y_TC_content ∈ WS ∧ Cond.initialized y_TC_content.cls ∈ WS := ⟨List.mem_of_getElem? (i := 674) rfl, List.mem_of_getElem? (i := 675) rfl, List.mem_of_getElem? (i := 1) rfl⟩
set_option maxRecDepth 100000 in
theorem wi_Mo_init : Cond.instanceMethod y_Mo_init ∈ WS := List.mem_of_getElem? (i := 680) rfl
set_option maxRecDepth 100000 in
theorem wi_Mo_declare : Cond.instanceMethod y_Mo_declare ∈ WS ∧ Cond.selects y_Mo_declare.cls y_Mo_declare y_Mo_declare ∈ WS ∧ Cond.initialized y_Mo_declare.cls ∈ WS := ⟨List.mem_of_getElem? (i := 747) rfl, List.mem_of_getElem? (i := 748) rfl, List.mem_of_getElem? (i := 11) rfl⟩
set_option maxRecDepth 100000 in
theorem wi_Mo_template : Cond.instanceMethod y_Mo_template ∈ WS ∧ Cond.selects y_Mo_template.cls y_Mo_template y_Mo_template ∈ WS ∧ Cond.initialized y_Mo_template.cls ∈ WS := ⟨List.mem_of_getElem? (i := 751) rfl, List.mem_of_getElem? (i := 752) rfl, List.mem_of_getElem? (i := 11) rfl⟩
set_option maxRecDepth 100000 in
theorem wi_Mo_parameter : Cond.instanceMethod y_Mo_parameter ∈ WS ∧ Cond.selects y_Mo_parameter.cls y_Mo_parameter y_Mo_parameter ∈ WS ∧ Cond.initialized y_Mo_parameter.cls ∈ WS := ⟨List.mem_of_getElem? (i := 755) rfl, List.mem_of_getElem? (i := 756) rfl, List.mem_of_getElem? (i := 11) rfl⟩
set_option maxRecDepth 100000 in
theorem wi_Mo_isParameter : Cond.instanceMethod y_Mo_isParameter ∈ WS ∧ Cond.selects y_Mo_isParameter.cls y_Mo_isParameter y_Mo_isParameter ∈ WS ∧ Cond.initialized y_Mo_isParameter.cls ∈ WS := ⟨List.mem_of_getElem? (i := 763) rfl, List.mem_of_getElem? (i := 995) rfl, List.mem_of_getElem? (i := 11) rfl⟩
set_option maxRecDepth 100000 in
theorem wi_Mo_item : Cond.instanceMethod y_Mo_item ∈ WS ∧ Cond.selects y_Mo_item.cls y_Mo_item y_Mo_item ∈ WS ∧ Cond.initialized y_Mo_item.cls ∈ WS := ⟨List.mem_of_getElem? (i := 759) rfl, List.mem_of_getElem? (i := 760) rfl, List.mem_of_getElem? (i := 11) rfl⟩
set_option maxRecDepth 100000 in
theorem wi_Mo_write : Cond.instanceMethod y_Mo_write ∈ WS ∧ Cond.selects y_Mo_write.cls y_Mo_write y_Mo_write ∈ WS ∧ Cond.initialized y_Mo_write.cls ∈ WS := ⟨List.mem_of_getElem? (i := 766) rfl, List.mem_of_getElem? (i := 767) rfl, List.mem_of_getElem? (i := 11) rfl⟩
set_option maxRecDepth 100000 in
theorem wi_Mo_empty : Cond.instanceMethod y_Mo_empty ∈ WS ∧ Cond.selects y_Mo_empty.cls y_Mo_empty y_Mo_empty ∈ WS ∧ Cond.initialized y_Mo_empty.cls ∈ WS := ⟨List.mem_of_getElem? (i := 770) rfl, List.mem_of_getElem? (i := 771) rfl, List.mem_of_getElem? (i := 11) rfl⟩
set_option maxRecDepth 100000 in
theorem wi_Mo_character : Cond.instanceMethod y_Mo_character ∈ WS ∧ Cond.selects y_Mo_character.cls y_Mo_character y_Mo_character ∈ WS ∧ Cond.initialized y_Mo_character.cls ∈ WS := ⟨List.mem_of_getElem? (i := 784) rfl, List.mem_of_getElem? (i := 996) rfl, List.mem_of_getElem? (i := 11) rfl⟩
set_option maxRecDepth 100000 in
theorem wt_Mo_small : Cond.static y_Mo_small ∈ WS ∧ Cond.initialized y_Mo_small.cls ∈ WS := ⟨List.mem_of_getElem? (i := 790) rfl, List.mem_of_getElem? (i := 11) rfl⟩
set_option maxRecDepth 100000 in
theorem wt_Mo_digit : Cond.static y_Mo_digit ∈ WS ∧ Cond.initialized y_Mo_digit.cls ∈ WS := ⟨List.mem_of_getElem? (i := 799) rfl, List.mem_of_getElem? (i := 11) rfl⟩
set_option maxRecDepth 100000 in
theorem wt_Mo_letterOrDigit : Cond.static y_Mo_letterOrDigit ∈ WS ∧ Cond.initialized y_Mo_letterOrDigit.cls ∈ WS := ⟨List.mem_of_getElem? (i := 796) rfl, List.mem_of_getElem? (i := 11) rfl⟩
set_option maxRecDepth 100000 in
theorem wt_Mo_plain : Cond.static y_Mo_plain ∈ WS ∧ Cond.initialized y_Mo_plain.cls ∈ WS := ⟨List.mem_of_getElem? (i := 793) rfl, List.mem_of_getElem? (i := 11) rfl⟩
set_option maxRecDepth 100000 in
theorem wt_Mo_operator : Cond.static y_Mo_operator ∈ WS ∧ Cond.initialized y_Mo_operator.cls ∈ WS := ⟨List.mem_of_getElem? (i := 787) rfl, List.mem_of_getElem? (i := 11) rfl⟩
set_option maxRecDepth 100000 in
theorem wi_Mo_behind : Cond.instanceMethod y_Mo_behind ∈ WS ∧ Cond.selects y_Mo_behind.cls y_Mo_behind y_Mo_behind ∈ WS ∧ Cond.initialized y_Mo_behind.cls ∈ WS := ⟨List.mem_of_getElem? (i := 781) rfl, List.mem_of_getElem? (i := 997) rfl, List.mem_of_getElem? (i := 11) rfl⟩
set_option maxRecDepth 100000 in
theorem wi_Mo_wellFormed : Cond.instanceMethod y_Mo_wellFormed ∈ WS ∧ Cond.selects y_Mo_wellFormed.cls y_Mo_wellFormed y_Mo_wellFormed ∈ WS ∧ Cond.initialized y_Mo_wellFormed.cls ∈ WS := ⟨List.mem_of_getElem? (i := 778) rfl, List.mem_of_getElem? (i := 998) rfl, List.mem_of_getElem? (i := 11) rfl⟩
set_option maxRecDepth 100000 in
theorem wi_Mo_variableAt : Cond.instanceMethod y_Mo_variableAt ∈ WS ∧ Cond.selects y_Mo_variableAt.cls y_Mo_variableAt y_Mo_variableAt ∈ WS ∧ Cond.initialized y_Mo_variableAt.cls ∈ WS := ⟨List.mem_of_getElem? (i := 805) rfl, List.mem_of_getElem? (i := 999) rfl, List.mem_of_getElem? (i := 11) rfl⟩
set_option maxRecDepth 100000 in
theorem wi_Mo_named : Cond.instanceMethod y_Mo_named ∈ WS ∧ Cond.selects y_Mo_named.cls y_Mo_named y_Mo_named ∈ WS ∧ Cond.initialized y_Mo_named.cls ∈ WS := ⟨List.mem_of_getElem? (i := 808) rfl, List.mem_of_getElem? (i := 1000) rfl, List.mem_of_getElem? (i := 11) rfl⟩
set_option maxRecDepth 100000 in
theorem wi_Mo_kinds : Cond.instanceMethod y_Mo_kinds ∈ WS ∧ Cond.selects y_Mo_kinds.cls y_Mo_kinds y_Mo_kinds ∈ WS ∧ Cond.initialized y_Mo_kinds.cls ∈ WS := ⟨List.mem_of_getElem? (i := 820) rfl, List.mem_of_getElem? (i := 1001) rfl, List.mem_of_getElem? (i := 11) rfl⟩
set_option maxRecDepth 100000 in
theorem wi_Mo_unknown : Cond.instanceMethod y_Mo_unknown ∈ WS ∧ Cond.selects y_Mo_unknown.cls y_Mo_unknown y_Mo_unknown ∈ WS ∧ Cond.initialized y_Mo_unknown.cls ∈ WS := ⟨List.mem_of_getElem? (i := 802) rfl, List.mem_of_getElem? (i := 1002) rfl, List.mem_of_getElem? (i := 11) rfl⟩
set_option maxRecDepth 100000 in
theorem wi_Mo_twice : Cond.instanceMethod y_Mo_twice ∈ WS ∧ Cond.selects y_Mo_twice.cls y_Mo_twice y_Mo_twice ∈ WS ∧ Cond.initialized y_Mo_twice.cls ∈ WS := ⟨List.mem_of_getElem? (i := 811) rfl, List.mem_of_getElem? (i := 1003) rfl, List.mem_of_getElem? (i := 11) rfl⟩
set_option maxRecDepth 100000 in
theorem wi_Mo_unused : Cond.instanceMethod y_Mo_unused ∈ WS ∧ Cond.selects y_Mo_unused.cls y_Mo_unused y_Mo_unused ∈ WS ∧ Cond.initialized y_Mo_unused.cls ∈ WS := ⟨List.mem_of_getElem? (i := 814) rfl, List.mem_of_getElem? (i := 1004) rfl, List.mem_of_getElem? (i := 11) rfl⟩
set_option maxRecDepth 100000 in
theorem wi_Mo_cutList : Cond.instanceMethod y_Mo_cutList ∈ WS ∧ Cond.selects y_Mo_cutList.cls y_Mo_cutList y_Mo_cutList ∈ WS ∧ Cond.initialized y_Mo_cutList.cls ∈ WS := ⟨List.mem_of_getElem? (i := 817) rfl, List.mem_of_getElem? (i := 1005) rfl, List.mem_of_getElem? (i := 11) rfl⟩
set_option maxRecDepth 100000 in
theorem wi_Mo_check : Cond.instanceMethod y_Mo_check ∈ WS ∧ Cond.selects y_Mo_check.cls y_Mo_check y_Mo_check ∈ WS ∧ Cond.initialized y_Mo_check.cls ∈ WS := ⟨List.mem_of_getElem? (i := 774) rfl, List.mem_of_getElem? (i := 775) rfl, List.mem_of_getElem? (i := 11) rfl⟩
set_option maxRecDepth 100000 in
theorem wt_Mo_high : Cond.static y_Mo_high ∈ WS ∧ Cond.initialized y_Mo_high.cls ∈ WS := ⟨List.mem_of_getElem? (i := 834) rfl, List.mem_of_getElem? (i := 11) rfl⟩
set_option maxRecDepth 100000 in
theorem wt_Mo_low : Cond.static y_Mo_low ∈ WS ∧ Cond.initialized y_Mo_low.cls ∈ WS := ⟨List.mem_of_getElem? (i := 842) rfl, List.mem_of_getElem? (i := 11) rfl⟩
set_option maxRecDepth 100000 in
theorem wi_Mo_pair : Cond.instanceMethod y_Mo_pair ∈ WS ∧ Cond.selects y_Mo_pair.cls y_Mo_pair y_Mo_pair ∈ WS ∧ Cond.initialized y_Mo_pair.cls ∈ WS := ⟨List.mem_of_getElem? (i := 839) rfl, List.mem_of_getElem? (i := 1006) rfl, List.mem_of_getElem? (i := 11) rfl⟩
set_option maxRecDepth 100000 in
theorem wi_Mo_loneIn : Cond.instanceMethod y_Mo_loneIn ∈ WS ∧ Cond.selects y_Mo_loneIn.cls y_Mo_loneIn y_Mo_loneIn ∈ WS ∧ Cond.initialized y_Mo_loneIn.cls ∈ WS := ⟨List.mem_of_getElem? (i := 831) rfl, List.mem_of_getElem? (i := 1007) rfl, List.mem_of_getElem? (i := 11) rfl⟩
set_option maxRecDepth 100000 in
theorem wi_Mo_unfitIn : Cond.instanceMethod y_Mo_unfitIn ∈ WS ∧ Cond.selects y_Mo_unfitIn.cls y_Mo_unfitIn y_Mo_unfitIn ∈ WS ∧ Cond.initialized y_Mo_unfitIn.cls ∈ WS := ⟨List.mem_of_getElem? (i := 847) rfl, List.mem_of_getElem? (i := 1008) rfl, List.mem_of_getElem? (i := 11) rfl⟩
set_option maxRecDepth 100000 in
theorem wi_Mo_itemFault : Cond.instanceMethod y_Mo_itemFault ∈ WS ∧ Cond.selects y_Mo_itemFault.cls y_Mo_itemFault y_Mo_itemFault ∈ WS ∧ Cond.initialized y_Mo_itemFault.cls ∈ WS := ⟨List.mem_of_getElem? (i := 828) rfl, List.mem_of_getElem? (i := 1009) rfl, List.mem_of_getElem? (i := 11) rfl⟩
set_option maxRecDepth 100000 in
theorem wi_Mo_put : Cond.instanceMethod y_Mo_put ∈ WS ∧ Cond.selects y_Mo_put.cls y_Mo_put y_Mo_put ∈ WS ∧ Cond.initialized y_Mo_put.cls ∈ WS := ⟨List.mem_of_getElem? (i := 866) rfl, List.mem_of_getElem? (i := 1010) rfl, List.mem_of_getElem? (i := 11) rfl⟩
set_option maxRecDepth 100000 in
theorem wi_Mo_spell : Cond.instanceMethod y_Mo_spell ∈ WS ∧ Cond.selects y_Mo_spell.cls y_Mo_spell y_Mo_spell ∈ WS ∧ Cond.initialized y_Mo_spell.cls ∈ WS := ⟨List.mem_of_getElem? (i := 881) rfl, List.mem_of_getElem? (i := 1011) rfl, List.mem_of_getElem? (i := 11) rfl⟩
set_option maxRecDepth 100000 in
theorem wi_Mo_number : Cond.instanceMethod y_Mo_number ∈ WS ∧ Cond.selects y_Mo_number.cls y_Mo_number y_Mo_number ∈ WS ∧ Cond.initialized y_Mo_number.cls ∈ WS := ⟨List.mem_of_getElem? (i := 910) rfl, List.mem_of_getElem? (i := 1012) rfl, List.mem_of_getElem? (i := 11) rfl⟩
set_option maxRecDepth 100000 in
theorem wi_Mo_end : Cond.instanceMethod y_Mo_end ∈ WS ∧ Cond.selects y_Mo_end.cls y_Mo_end y_Mo_end ∈ WS ∧ Cond.initialized y_Mo_end.cls ∈ WS := ⟨List.mem_of_getElem? (i := 898) rfl, List.mem_of_getElem? (i := 1013) rfl, List.mem_of_getElem? (i := 11) rfl⟩
set_option maxRecDepth 100000 in
theorem wi_Mo_hexadecimal : Cond.instanceMethod y_Mo_hexadecimal ∈ WS ∧ Cond.selects y_Mo_hexadecimal.cls y_Mo_hexadecimal y_Mo_hexadecimal ∈ WS ∧ Cond.initialized y_Mo_hexadecimal.cls ∈ WS := ⟨List.mem_of_getElem? (i := 869) rfl, List.mem_of_getElem? (i := 1014) rfl, List.mem_of_getElem? (i := 11) rfl⟩
set_option maxRecDepth 100000 in
theorem wi_Mo_single : Cond.instanceMethod y_Mo_single ∈ WS ∧ Cond.selects y_Mo_single.cls y_Mo_single y_Mo_single ∈ WS ∧ Cond.initialized y_Mo_single.cls ∈ WS := ⟨List.mem_of_getElem? (i := 863) rfl, List.mem_of_getElem? (i := 1015) rfl, List.mem_of_getElem? (i := 11) rfl⟩
set_option maxRecDepth 100000 in
theorem wi_Mo_utf : Cond.instanceMethod y_Mo_utf ∈ WS ∧ Cond.selects y_Mo_utf.cls y_Mo_utf y_Mo_utf ∈ WS ∧ Cond.initialized y_Mo_utf.cls ∈ WS := ⟨List.mem_of_getElem? (i := 860) rfl, List.mem_of_getElem? (i := 1016) rfl, List.mem_of_getElem? (i := 11) rfl⟩
set_option maxRecDepth 100000 in
theorem wt_Mo_hex : Cond.static y_Mo_hex ∈ WS ∧ Cond.initialized y_Mo_hex.cls ∈ WS := ⟨List.mem_of_getElem? (i := 856) rfl, List.mem_of_getElem? (i := 11) rfl⟩
set_option maxRecDepth 100000 in
theorem wt_Mo_loose : Cond.static y_Mo_loose ∈ WS ∧ Cond.initialized y_Mo_loose.cls ∈ WS := ⟨List.mem_of_getElem? (i := 873) rfl, List.mem_of_getElem? (i := 11) rfl⟩
set_option maxRecDepth 100000 in
theorem wi_Mo_encode : Cond.instanceMethod y_Mo_encode ∈ WS ∧ Cond.selects y_Mo_encode.cls y_Mo_encode y_Mo_encode ∈ WS ∧ Cond.initialized y_Mo_encode.cls ∈ WS := ⟨List.mem_of_getElem? (i := 853) rfl, List.mem_of_getElem? (i := 1017) rfl, List.mem_of_getElem? (i := 11) rfl⟩
set_option maxRecDepth 100000 in
theorem wi_Mo_give : Cond.instanceMethod y_Mo_give ∈ WS ∧ Cond.selects y_Mo_give.cls y_Mo_give y_Mo_give ∈ WS ∧ Cond.initialized y_Mo_give.cls ∈ WS := ⟨List.mem_of_getElem? (i := 894) rfl, List.mem_of_getElem? (i := 1018) rfl, List.mem_of_getElem? (i := 11) rfl⟩
set_option maxRecDepth 100000 in
theorem wi_Mo_between : Cond.instanceMethod y_Mo_between ∈ WS ∧ Cond.selects y_Mo_between.cls y_Mo_between y_Mo_between ∈ WS ∧ Cond.initialized y_Mo_between.cls ∈ WS := ⟨List.mem_of_getElem? (i := 891) rfl, List.mem_of_getElem? (i := 1019) rfl, List.mem_of_getElem? (i := 11) rfl⟩
set_option maxRecDepth 100000 in
theorem wi_Mo_expression : Cond.instanceMethod y_Mo_expression ∈ WS ∧ Cond.selects y_Mo_expression.cls y_Mo_expression y_Mo_expression ∈ WS ∧ Cond.initialized y_Mo_expression.cls ∈ WS := ⟨List.mem_of_getElem? (i := 888) rfl, List.mem_of_getElem? (i := 1020) rfl, List.mem_of_getElem? (i := 11) rfl⟩
set_option maxRecDepth 100000 in
theorem wi_Mo_target : Cond.instanceMethod y_Mo_target ∈ WS ∧ Cond.selects y_Mo_target.cls y_Mo_target y_Mo_target ∈ WS ∧ Cond.initialized y_Mo_target.cls ∈ WS := ⟨List.mem_of_getElem? (i := 885) rfl, List.mem_of_getElem? (i := 1021) rfl, List.mem_of_getElem? (i := 11) rfl⟩
set_option maxRecDepth 100000 in
theorem wi_Mo_compose : Cond.instanceMethod y_Mo_compose ∈ WS ∧ Cond.selects y_Mo_compose.cls y_Mo_compose y_Mo_compose ∈ WS ∧ Cond.initialized y_Mo_compose.cls ∈ WS := ⟨List.mem_of_getElem? (i := 850) rfl, List.mem_of_getElem? (i := 1022) rfl, List.mem_of_getElem? (i := 11) rfl⟩
set_option maxRecDepth 100000 in
theorem wi_Mo_headers : Cond.instanceMethod y_Mo_headers ∈ WS ∧ Cond.selects y_Mo_headers.cls y_Mo_headers y_Mo_headers ∈ WS ∧ Cond.initialized y_Mo_headers.cls ∈ WS := ⟨List.mem_of_getElem? (i := 902) rfl, List.mem_of_getElem? (i := 1023) rfl, List.mem_of_getElem? (i := 11) rfl⟩
set_option maxRecDepth 100000 in
theorem wi_Mo_send : Cond.instanceMethod y_Mo_send ∈ WS ∧ Cond.selects y_Mo_send.cls y_Mo_send y_Mo_send ∈ WS ∧ Cond.initialized y_Mo_send.cls ∈ WS := ⟨List.mem_of_getElem? (i := 823) rfl, List.mem_of_getElem? (i := 824) rfl, List.mem_of_getElem? (i := 11) rfl⟩
set_option maxRecDepth 100000 in
theorem wi_Mo_sent : Cond.instanceMethod y_Mo_sent ∈ WS ∧ Cond.selects y_Mo_sent.cls y_Mo_sent y_Mo_sent ∈ WS ∧ Cond.initialized y_Mo_sent.cls ∈ WS := ⟨List.mem_of_getElem? (i := 913) rfl, List.mem_of_getElem? (i := 914) rfl, List.mem_of_getElem? (i := 11) rfl⟩
set_option maxRecDepth 100000 in
theorem wi_Mo_line : Cond.instanceMethod y_Mo_line ∈ WS ∧ Cond.selects y_Mo_line.cls y_Mo_line y_Mo_line ∈ WS ∧ Cond.initialized y_Mo_line.cls ∈ WS := ⟨List.mem_of_getElem? (i := 927) rfl, List.mem_of_getElem? (i := 1024) rfl, List.mem_of_getElem? (i := 11) rfl⟩
set_option maxRecDepth 100000 in
theorem wt_Mo_lower : Cond.static y_Mo_lower ∈ WS ∧ Cond.initialized y_Mo_lower.cls ∈ WS := ⟨List.mem_of_getElem? (i := 937) rfl, List.mem_of_getElem? (i := 11) rfl⟩
set_option maxRecDepth 100000 in
theorem wi_Mo_spelt : Cond.instanceMethod y_Mo_spelt ∈ WS ∧ Cond.selects y_Mo_spelt.cls y_Mo_spelt y_Mo_spelt ∈ WS ∧ Cond.initialized y_Mo_spelt.cls ∈ WS := ⟨List.mem_of_getElem? (i := 934) rfl, List.mem_of_getElem? (i := 1025) rfl, List.mem_of_getElem? (i := 11) rfl⟩
set_option maxRecDepth 100000 in
theorem wi_Mo_statusLine : Cond.instanceMethod y_Mo_statusLine ∈ WS ∧ Cond.selects y_Mo_statusLine.cls y_Mo_statusLine y_Mo_statusLine ∈ WS ∧ Cond.initialized y_Mo_statusLine.cls ∈ WS := ⟨List.mem_of_getElem? (i := 930) rfl, List.mem_of_getElem? (i := 1026) rfl, List.mem_of_getElem? (i := 11) rfl⟩
set_option maxRecDepth 100000 in
theorem wi_Mo_counted : Cond.instanceMethod y_Mo_counted ∈ WS ∧ Cond.selects y_Mo_counted.cls y_Mo_counted y_Mo_counted ∈ WS ∧ Cond.initialized y_Mo_counted.cls ∈ WS := ⟨List.mem_of_getElem? (i := 950) rfl, List.mem_of_getElem? (i := 1027) rfl, List.mem_of_getElem? (i := 11) rfl⟩
set_option maxRecDepth 100000 in
theorem wi_Mo_fieldLine : Cond.instanceMethod y_Mo_fieldLine ∈ WS ∧ Cond.selects y_Mo_fieldLine.cls y_Mo_fieldLine y_Mo_fieldLine ∈ WS ∧ Cond.initialized y_Mo_fieldLine.cls ∈ WS := ⟨List.mem_of_getElem? (i := 943) rfl, List.mem_of_getElem? (i := 1028) rfl, List.mem_of_getElem? (i := 11) rfl⟩
set_option maxRecDepth 100000 in
theorem wi_Mo_fieldLines : Cond.instanceMethod y_Mo_fieldLines ∈ WS ∧ Cond.selects y_Mo_fieldLines.cls y_Mo_fieldLines y_Mo_fieldLines ∈ WS ∧ Cond.initialized y_Mo_fieldLines.cls ∈ WS := ⟨List.mem_of_getElem? (i := 940) rfl, List.mem_of_getElem? (i := 1029) rfl, List.mem_of_getElem? (i := 11) rfl⟩
set_option maxRecDepth 100000 in
theorem wi_Mo_head : Cond.instanceMethod y_Mo_head ∈ WS ∧ Cond.selects y_Mo_head.cls y_Mo_head y_Mo_head ∈ WS ∧ Cond.initialized y_Mo_head.cls ∈ WS := ⟨List.mem_of_getElem? (i := 924) rfl, List.mem_of_getElem? (i := 1030) rfl, List.mem_of_getElem? (i := 11) rfl⟩
set_option maxRecDepth 100000 in
theorem wi_Mo_take : Cond.instanceMethod y_Mo_take ∈ WS ∧ Cond.selects y_Mo_take.cls y_Mo_take y_Mo_take ∈ WS ∧ Cond.initialized y_Mo_take.cls ∈ WS := ⟨List.mem_of_getElem? (i := 963) rfl, List.mem_of_getElem? (i := 1031) rfl, List.mem_of_getElem? (i := 11) rfl⟩
set_option maxRecDepth 100000 in
theorem wi_Mo_chunkSize : Cond.instanceMethod y_Mo_chunkSize ∈ WS ∧ Cond.selects y_Mo_chunkSize.cls y_Mo_chunkSize y_Mo_chunkSize ∈ WS ∧ Cond.initialized y_Mo_chunkSize.cls ∈ WS := ⟨List.mem_of_getElem? (i := 960) rfl, List.mem_of_getElem? (i := 1032) rfl, List.mem_of_getElem? (i := 11) rfl⟩
set_option maxRecDepth 100000 in
theorem wi_Mo_chunks : Cond.instanceMethod y_Mo_chunks ∈ WS ∧ Cond.selects y_Mo_chunks.cls y_Mo_chunks y_Mo_chunks ∈ WS ∧ Cond.initialized y_Mo_chunks.cls ∈ WS := ⟨List.mem_of_getElem? (i := 957) rfl, List.mem_of_getElem? (i := 1033) rfl, List.mem_of_getElem? (i := 11) rfl⟩
set_option maxRecDepth 100000 in
theorem wi_Mo_after : Cond.instanceMethod y_Mo_after ∈ WS ∧ Cond.selects y_Mo_after.cls y_Mo_after y_Mo_after ∈ WS ∧ Cond.initialized y_Mo_after.cls ∈ WS := ⟨List.mem_of_getElem? (i := 954) rfl, List.mem_of_getElem? (i := 1034) rfl, List.mem_of_getElem? (i := 11) rfl⟩
set_option maxRecDepth 100000 in
theorem wi_Mo_work : Cond.instanceMethod y_Mo_work ∈ WS ∧ Cond.selects y_Mo_work.cls y_Mo_work y_Mo_work ∈ WS ∧ Cond.initialized y_Mo_work.cls ∈ WS := ⟨List.mem_of_getElem? (i := 921) rfl, List.mem_of_getElem? (i := 1035) rfl, List.mem_of_getElem? (i := 11) rfl⟩
set_option maxRecDepth 100000 in
theorem wi_Mo_feed : Cond.instanceMethod y_Mo_feed ∈ WS ∧ Cond.selects y_Mo_feed.cls y_Mo_feed y_Mo_feed ∈ WS ∧ Cond.initialized y_Mo_feed.cls ∈ WS := ⟨List.mem_of_getElem? (i := 917) rfl, List.mem_of_getElem? (i := 918) rfl, List.mem_of_getElem? (i := 11) rfl⟩
set_option maxRecDepth 100000 in
theorem wi_Mo_close : Cond.instanceMethod y_Mo_close ∈ WS ∧ Cond.selects y_Mo_close.cls y_Mo_close y_Mo_close ∈ WS ∧ Cond.initialized y_Mo_close.cls ∈ WS := ⟨List.mem_of_getElem? (i := 966) rfl, List.mem_of_getElem? (i := 967) rfl, List.mem_of_getElem? (i := 11) rfl⟩
set_option maxRecDepth 100000 in
theorem wi_Mo_reset : Cond.instanceMethod y_Mo_reset ∈ WS ∧ Cond.selects y_Mo_reset.cls y_Mo_reset y_Mo_reset ∈ WS ∧ Cond.initialized y_Mo_reset.cls ∈ WS := ⟨List.mem_of_getElem? (i := 970) rfl, List.mem_of_getElem? (i := 971) rfl, List.mem_of_getElem? (i := 11) rfl⟩
set_option maxRecDepth 100000 in
theorem wi_Mo_state : Cond.instanceMethod y_Mo_state ∈ WS ∧ Cond.selects y_Mo_state.cls y_Mo_state y_Mo_state ∈ WS ∧ Cond.initialized y_Mo_state.cls ∈ WS := ⟨List.mem_of_getElem? (i := 974) rfl, List.mem_of_getElem? (i := 975) rfl, List.mem_of_getElem? (i := 11) rfl⟩
set_option maxRecDepth 100000 in
theorem wi_Mo_status : Cond.instanceMethod y_Mo_status ∈ WS ∧ Cond.selects y_Mo_status.cls y_Mo_status y_Mo_status ∈ WS ∧ Cond.initialized y_Mo_status.cls ∈ WS := ⟨List.mem_of_getElem? (i := 978) rfl, List.mem_of_getElem? (i := 979) rfl, List.mem_of_getElem? (i := 11) rfl⟩
set_option maxRecDepth 100000 in
theorem wi_Mo_fields : Cond.instanceMethod y_Mo_fields ∈ WS ∧ Cond.selects y_Mo_fields.cls y_Mo_fields y_Mo_fields ∈ WS ∧ Cond.initialized y_Mo_fields.cls ∈ WS := ⟨List.mem_of_getElem? (i := 982) rfl, List.mem_of_getElem? (i := 983) rfl, List.mem_of_getElem? (i := 11) rfl⟩
set_option maxRecDepth 100000 in
theorem wi_Mo_length : Cond.instanceMethod y_Mo_length ∈ WS ∧ Cond.selects y_Mo_length.cls y_Mo_length y_Mo_length ∈ WS ∧ Cond.initialized y_Mo_length.cls ∈ WS := ⟨List.mem_of_getElem? (i := 986) rfl, List.mem_of_getElem? (i := 987) rfl, List.mem_of_getElem? (i := 11) rfl⟩
set_option maxRecDepth 100000 in
theorem wi_Mo_content : Cond.instanceMethod y_Mo_content ∈ WS ∧ Cond.selects y_Mo_content.cls y_Mo_content y_Mo_content ∈ WS ∧ Cond.initialized y_Mo_content.cls ∈ WS := ⟨List.mem_of_getElem? (i := 990) rfl, List.mem_of_getElem? (i := 991) rfl, List.mem_of_getElem? (i := 11) rfl⟩
theorem wi_ByteRow_init : Cond.instanceMethod y_ByteRow_init ∈ WS := List.mem_of_getElem? (i := 84) rfl
set_option maxRecDepth 100000 in
theorem wi_ByteRow_put : Cond.instanceMethod y_ByteRow_put ∈ WS ∧ Cond.selects y_ByteRow_put.cls y_ByteRow_put y_ByteRow_put ∈ WS ∧ Cond.initialized y_ByteRow_put.cls ∈ WS := ⟨List.mem_of_getElem? (i := 414) rfl, List.mem_of_getElem? (i := 415) rfl, List.mem_of_getElem? (i := 7) rfl⟩
set_option maxRecDepth 100000 in
theorem wi_ByteRow_putText : Cond.instanceMethod y_ByteRow_putText ∈ WS ∧ Cond.selects y_ByteRow_putText.cls y_ByteRow_putText y_ByteRow_putText ∈ WS ∧ Cond.initialized y_ByteRow_putText.cls ∈ WS := ⟨List.mem_of_getElem? (i := 395) rfl, List.mem_of_getElem? (i := 396) rfl, List.mem_of_getElem? (i := 7) rfl⟩
set_option maxRecDepth 100000 in
theorem wi_ByteRow_putNumber : Cond.instanceMethod y_ByteRow_putNumber ∈ WS ∧ Cond.selects y_ByteRow_putNumber.cls y_ByteRow_putNumber y_ByteRow_putNumber ∈ WS ∧ Cond.initialized y_ByteRow_putNumber.cls ∈ WS := ⟨List.mem_of_getElem? (i := 521) rfl, List.mem_of_getElem? (i := 522) rfl, List.mem_of_getElem? (i := 7) rfl⟩
set_option maxRecDepth 100000 in
theorem wi_ByteRow_has : Cond.instanceMethod y_ByteRow_has ∈ WS ∧ Cond.selects y_ByteRow_has.cls y_ByteRow_has y_ByteRow_has ∈ WS ∧ Cond.initialized y_ByteRow_has.cls ∈ WS := ⟨List.mem_of_getElem? (i := 497) rfl, List.mem_of_getElem? (i := 498) rfl, List.mem_of_getElem? (i := 7) rfl⟩
set_option maxRecDepth 100000 in
theorem wi_ByteRow_at : Cond.instanceMethod y_ByteRow_at ∈ WS ∧ Cond.selects y_ByteRow_at.cls y_ByteRow_at y_ByteRow_at ∈ WS ∧ Cond.initialized y_ByteRow_at.cls ∈ WS := ⟨List.mem_of_getElem? (i := 529) rfl, List.mem_of_getElem? (i := 530) rfl, List.mem_of_getElem? (i := 7) rfl⟩
theorem wt_Chars_isSmall : Cond.static y_Chars_isSmall ∈ WS ∧ Cond.initialized y_Chars_isSmall.cls ∈ WS := ⟨List.mem_of_getElem? (i := 193) rfl, List.mem_of_getElem? (i := 12) rfl⟩
set_option maxRecDepth 100000 in
theorem wt_Chars_isDigit : Cond.static y_Chars_isDigit ∈ WS ∧ Cond.initialized y_Chars_isDigit.cls ∈ WS := ⟨List.mem_of_getElem? (i := 573) rfl, List.mem_of_getElem? (i := 12) rfl⟩
theorem wt_Chars_isLetterOrDigit : Cond.static y_Chars_isLetterOrDigit ∈ WS ∧ Cond.initialized y_Chars_isLetterOrDigit.cls ∈ WS := ⟨List.mem_of_getElem? (i := 226) rfl, List.mem_of_getElem? (i := 12) rfl⟩
set_option maxRecDepth 100000 in
theorem wt_Chars_isUnreserved : Cond.static y_Chars_isUnreserved ∈ WS ∧ Cond.initialized y_Chars_isUnreserved.cls ∈ WS := ⟨List.mem_of_getElem? (i := 458) rfl, List.mem_of_getElem? (i := 12) rfl⟩
theorem wt_Chars_isLiteral : Cond.static y_Chars_isLiteral ∈ WS ∧ Cond.initialized y_Chars_isLiteral.cls ∈ WS := ⟨List.mem_of_getElem? (i := 223) rfl, List.mem_of_getElem? (i := 12) rfl⟩
theorem wt_Chars_isOperator : Cond.static y_Chars_isOperator ∈ WS ∧ Cond.initialized y_Chars_isOperator.cls ∈ WS := ⟨List.mem_of_getElem? (i := 274) rfl, List.mem_of_getElem? (i := 12) rfl⟩
set_option maxRecDepth 100000 in
theorem wt_Chars_isLooseMark : Cond.static y_Chars_isLooseMark ∈ WS ∧ Cond.initialized y_Chars_isLooseMark.cls ∈ WS := ⟨List.mem_of_getElem? (i := 462) rfl, List.mem_of_getElem? (i := 12) rfl⟩
set_option maxRecDepth 100000 in
theorem wt_Chars_isBlank : Cond.static y_Chars_isBlank ∈ WS ∧ Cond.initialized y_Chars_isBlank.cls ∈ WS := ⟨List.mem_of_getElem? (i := 613) rfl, List.mem_of_getElem? (i := 12) rfl⟩
set_option maxRecDepth 100000 in
theorem wt_Chars_toSmall : Cond.static y_Chars_toSmall ∈ WS ∧ Cond.initialized y_Chars_toSmall.cls ∈ WS := ⟨List.mem_of_getElem? (i := 624) rfl, List.mem_of_getElem? (i := 12) rfl⟩
set_option maxRecDepth 100000 in
theorem wt_Chars_hexValue : Cond.static y_Chars_hexValue ∈ WS ∧ Cond.initialized y_Chars_hexValue.cls ∈ WS := ⟨List.mem_of_getElem? (i := 469) rfl, List.mem_of_getElem? (i := 12) rfl⟩
set_option maxRecDepth 100000 in
theorem wt_Chars_hexDigit : Cond.static y_Chars_hexDigit ∈ WS ∧ Cond.initialized y_Chars_hexDigit.cls ∈ WS := ⟨List.mem_of_getElem? (i := 487) rfl, List.mem_of_getElem? (i := 12) rfl⟩
theorem wi_Declaration_init : Cond.instanceMethod y_Declaration_init ∈ WS := List.mem_of_getElem? (i := 31) rfl
theorem wi_Declaration_begin : Cond.instanceMethod y_Declaration_begin ∈ WS ∧ Cond.selects y_Declaration_begin.cls y_Declaration_begin y_Declaration_begin ∈ WS ∧ Cond.initialized y_Declaration_begin.cls ∈ WS := ⟨List.mem_of_getElem? (i := 177) rfl, List.mem_of_getElem? (i := 178) rfl, List.mem_of_getElem? (i := 2) rfl⟩
set_option maxRecDepth 100000 in
theorem wi_Declaration_verbName : Cond.instanceMethod y_Declaration_verbName ∈ WS ∧ Cond.selects y_Declaration_verbName.cls y_Declaration_verbName y_Declaration_verbName ∈ WS ∧ Cond.initialized y_Declaration_verbName.cls ∈ WS := ⟨List.mem_of_getElem? (i := 391) rfl, List.mem_of_getElem? (i := 392) rfl, List.mem_of_getElem? (i := 2) rfl⟩
set_option maxRecDepth 100000 in
theorem wi_Declaration_mayHaveContent : Cond.instanceMethod y_Declaration_mayHaveContent ∈ WS ∧ Cond.selects y_Declaration_mayHaveContent.cls y_Declaration_mayHaveContent y_Declaration_mayHaveContent ∈ WS ∧ Cond.initialized y_Declaration_mayHaveContent.cls ∈ WS := ⟨List.mem_of_getElem? (i := 316) rfl, List.mem_of_getElem? (i := 317) rfl, List.mem_of_getElem? (i := 2) rfl⟩
theorem wi_Declaration_addParameter : Cond.instanceMethod y_Declaration_addParameter ∈ WS ∧ Cond.selects y_Declaration_addParameter.cls y_Declaration_addParameter y_Declaration_addParameter ∈ WS ∧ Cond.initialized y_Declaration_addParameter.cls ∈ WS := ⟨List.mem_of_getElem? (i := 196) rfl, List.mem_of_getElem? (i := 197) rfl, List.mem_of_getElem? (i := 2) rfl⟩
set_option maxRecDepth 100000 in
theorem wi_Declaration_parameterAt : Cond.instanceMethod y_Declaration_parameterAt ∈ WS ∧ Cond.selects y_Declaration_parameterAt.cls y_Declaration_parameterAt y_Declaration_parameterAt ∈ WS ∧ Cond.initialized y_Declaration_parameterAt.cls ∈ WS := ⟨List.mem_of_getElem? (i := 324) rfl, List.mem_of_getElem? (i := 325) rfl, List.mem_of_getElem? (i := 2) rfl⟩
theorem wi_Declaration_parameterOf : Cond.instanceMethod y_Declaration_parameterOf ∈ WS ∧ Cond.selects y_Declaration_parameterOf.cls y_Declaration_parameterOf y_Declaration_parameterOf ∈ WS ∧ Cond.initialized y_Declaration_parameterOf.cls ∈ WS := ⟨List.mem_of_getElem? (i := 289) rfl, List.mem_of_getElem? (i := 290) rfl, List.mem_of_getElem? (i := 2) rfl⟩
theorem wi_Declaration_fault : Cond.instanceMethod y_Declaration_fault ∈ WS ∧ Cond.selects y_Declaration_fault.cls y_Declaration_fault y_Declaration_fault ∈ WS ∧ Cond.initialized y_Declaration_fault.cls ∈ WS := ⟨List.mem_of_getElem? (i := 208) rfl, List.mem_of_getElem? (i := 209) rfl, List.mem_of_getElem? (i := 2) rfl⟩
set_option maxRecDepth 100000 in
theorem wi_Declaration_argumentFault : Cond.instanceMethod y_Declaration_argumentFault ∈ WS ∧ Cond.selects y_Declaration_argumentFault.cls y_Declaration_argumentFault y_Declaration_argumentFault ∈ WS ∧ Cond.initialized y_Declaration_argumentFault.cls ∈ WS := ⟨List.mem_of_getElem? (i := 356) rfl, List.mem_of_getElem? (i := 357) rfl, List.mem_of_getElem? (i := 2) rfl⟩
set_option maxRecDepth 100000 in
theorem wi_Declaration_hasUnknownVariable : Cond.instanceMethod y_Declaration_hasUnknownVariable ∈ WS ∧ Cond.selects y_Declaration_hasUnknownVariable.cls y_Declaration_hasUnknownVariable y_Declaration_hasUnknownVariable ∈ WS ∧ Cond.initialized y_Declaration_hasUnknownVariable.cls ∈ WS := ⟨List.mem_of_getElem? (i := 281) rfl, List.mem_of_getElem? (i := 1036) rfl, List.mem_of_getElem? (i := 2) rfl⟩
set_option maxRecDepth 100000 in
theorem wi_Declaration_hasLetterTwice : Cond.instanceMethod y_Declaration_hasLetterTwice ∈ WS ∧ Cond.selects y_Declaration_hasLetterTwice.cls y_Declaration_hasLetterTwice y_Declaration_hasLetterTwice ∈ WS ∧ Cond.initialized y_Declaration_hasLetterTwice.cls ∈ WS := ⟨List.mem_of_getElem? (i := 297) rfl, List.mem_of_getElem? (i := 1037) rfl, List.mem_of_getElem? (i := 2) rfl⟩
set_option maxRecDepth 100000 in
theorem wi_Declaration_hasUnusedParameter : Cond.instanceMethod y_Declaration_hasUnusedParameter ∈ WS ∧ Cond.selects y_Declaration_hasUnusedParameter.cls y_Declaration_hasUnusedParameter y_Declaration_hasUnusedParameter ∈ WS ∧ Cond.initialized y_Declaration_hasUnusedParameter.cls ∈ WS := ⟨List.mem_of_getElem? (i := 300) rfl, List.mem_of_getElem? (i := 1038) rfl, List.mem_of_getElem? (i := 2) rfl⟩
set_option maxRecDepth 100000 in
theorem wi_Declaration_hasVariable : Cond.instanceMethod y_Declaration_hasVariable ∈ WS ∧ Cond.selects y_Declaration_hasVariable.cls y_Declaration_hasVariable y_Declaration_hasVariable ∈ WS ∧ Cond.initialized y_Declaration_hasVariable.cls ∈ WS := ⟨List.mem_of_getElem? (i := 303) rfl, List.mem_of_getElem? (i := 1039) rfl, List.mem_of_getElem? (i := 2) rfl⟩
set_option maxRecDepth 100000 in
theorem wi_Declaration_hasCutList : Cond.instanceMethod y_Declaration_hasCutList ∈ WS ∧ Cond.selects y_Declaration_hasCutList.cls y_Declaration_hasCutList y_Declaration_hasCutList ∈ WS ∧ Cond.initialized y_Declaration_hasCutList.cls ∈ WS := ⟨List.mem_of_getElem? (i := 306) rfl, List.mem_of_getElem? (i := 1040) rfl, List.mem_of_getElem? (i := 2) rfl⟩
set_option maxRecDepth 100000 in
theorem wi_Declaration_countOf : Cond.instanceMethod y_Declaration_countOf ∈ WS ∧ Cond.selects y_Declaration_countOf.cls y_Declaration_countOf y_Declaration_countOf ∈ WS ∧ Cond.initialized y_Declaration_countOf.cls ∈ WS := ⟨List.mem_of_getElem? (i := 313) rfl, List.mem_of_getElem? (i := 1041) rfl, List.mem_of_getElem? (i := 2) rfl⟩
set_option maxRecDepth 100000 in
theorem wt_Encoder_putEncoded : Cond.static y_Encoder_putEncoded ∈ WS ∧ Cond.initialized y_Encoder_putEncoded.cls ∈ WS := ⟨List.mem_of_getElem? (i := 454) rfl, List.mem_of_getElem? (i := 19) rfl⟩
set_option maxRecDepth 100000 in
theorem wt_Encoder_putUtf8 : Cond.static y_Encoder_putUtf8 ∈ WS ∧ Cond.initialized y_Encoder_putUtf8.cls ∈ WS := ⟨List.mem_of_getElem? (i := 515) rfl, List.mem_of_getElem? (i := 19) rfl⟩
set_option maxRecDepth 100000 in
theorem wt_Encoder_putEscaped : Cond.static y_Encoder_putEscaped ∈ WS ∧ Cond.initialized y_Encoder_putEscaped.cls ∈ WS := ⟨List.mem_of_getElem? (i := 477) rfl, List.mem_of_getElem? (i := 19) rfl⟩
set_option maxRecDepth 100000 in
theorem wt_Encoder_utf8Count : Cond.static y_Encoder_utf8Count ∈ WS ∧ Cond.initialized y_Encoder_utf8Count.cls ∈ WS := ⟨List.mem_of_getElem? (i := 480) rfl, List.mem_of_getElem? (i := 19) rfl⟩
set_option maxRecDepth 100000 in
theorem wt_Encoder_utf8Byte : Cond.static y_Encoder_utf8Byte ∈ WS ∧ Cond.initialized y_Encoder_utf8Byte.cls ∈ WS := ⟨List.mem_of_getElem? (i := 484) rfl, List.mem_of_getElem? (i := 19) rfl⟩
theorem wi_Head_init : Cond.instanceMethod y_Head_init ∈ WS := List.mem_of_getElem? (i := 118) rfl
theorem wi_Head_clear : Cond.instanceMethod y_Head_clear ∈ WS ∧ Cond.selects y_Head_clear.cls y_Head_clear y_Head_clear ∈ WS ∧ Cond.initialized y_Head_clear.cls ∈ WS := ⟨List.mem_of_getElem? (i := 122) rfl, List.mem_of_getElem? (i := 123) rfl, List.mem_of_getElem? (i := 10) rfl⟩
set_option maxRecDepth 100000 in
theorem wi_Head_isForgotten : Cond.instanceMethod y_Head_isForgotten ∈ WS ∧ Cond.selects y_Head_isForgotten.cls y_Head_isForgotten y_Head_isForgotten ∈ WS ∧ Cond.initialized y_Head_isForgotten.cls ∈ WS := ⟨List.mem_of_getElem? (i := 586) rfl, List.mem_of_getElem? (i := 587) rfl, List.mem_of_getElem? (i := 10) rfl⟩
set_option maxRecDepth 100000 in
theorem wi_Head_hasNoContent : Cond.instanceMethod y_Head_hasNoContent ∈ WS ∧ Cond.selects y_Head_hasNoContent.cls y_Head_hasNoContent y_Head_hasNoContent ∈ WS ∧ Cond.initialized y_Head_hasNoContent.cls ∈ WS := ⟨List.mem_of_getElem? (i := 590) rfl, List.mem_of_getElem? (i := 591) rfl, List.mem_of_getElem? (i := 10) rfl⟩
set_option maxRecDepth 100000 in
theorem wi_Head_readFirst : Cond.instanceMethod y_Head_readFirst ∈ WS ∧ Cond.selects y_Head_readFirst.cls y_Head_readFirst y_Head_readFirst ∈ WS ∧ Cond.initialized y_Head_readFirst.cls ∈ WS := ⟨List.mem_of_getElem? (i := 561) rfl, List.mem_of_getElem? (i := 562) rfl, List.mem_of_getElem? (i := 10) rfl⟩
set_option maxRecDepth 100000 in
theorem wi_Head_readField : Cond.instanceMethod y_Head_readField ∈ WS ∧ Cond.selects y_Head_readField.cls y_Head_readField y_Head_readField ∈ WS ∧ Cond.initialized y_Head_readField.cls ∈ WS := ⟨List.mem_of_getElem? (i := 600) rfl, List.mem_of_getElem? (i := 601) rfl, List.mem_of_getElem? (i := 10) rfl⟩
set_option maxRecDepth 100000 in
theorem wi_Head_readTrailing : Cond.instanceMethod y_Head_readTrailing ∈ WS ∧ Cond.selects y_Head_readTrailing.cls y_Head_readTrailing y_Head_readTrailing ∈ WS ∧ Cond.initialized y_Head_readTrailing.cls ∈ WS := ⟨List.mem_of_getElem? (i := 641) rfl, List.mem_of_getElem? (i := 642) rfl, List.mem_of_getElem? (i := 10) rfl⟩
set_option maxRecDepth 100000 in
theorem wi_Head_setContentLength : Cond.instanceMethod y_Head_setContentLength ∈ WS ∧ Cond.selects y_Head_setContentLength.cls y_Head_setContentLength y_Head_setContentLength ∈ WS ∧ Cond.initialized y_Head_setContentLength.cls ∈ WS := ⟨List.mem_of_getElem? (i := 627) rfl, List.mem_of_getElem? (i := 1042) rfl, List.mem_of_getElem? (i := 10) rfl⟩
set_option maxRecDepth 100000 in
theorem wi_Head_setChunked : Cond.instanceMethod y_Head_setChunked ∈ WS ∧ Cond.selects y_Head_setChunked.cls y_Head_setChunked y_Head_setChunked ∈ WS ∧ Cond.initialized y_Head_setChunked.cls ∈ WS := ⟨List.mem_of_getElem? (i := 630) rfl, List.mem_of_getElem? (i := 1043) rfl, List.mem_of_getElem? (i := 10) rfl⟩
theorem wi_Item_init : Cond.instanceMethod y_Item_init ∈ WS := List.mem_of_getElem? (i := 52) rfl
set_option maxRecDepth 100000 in
theorem wi_Item_add : Cond.instanceMethod y_Item_add ∈ WS ∧ Cond.selects y_Item_add.cls y_Item_add y_Item_add ∈ WS ∧ Cond.initialized y_Item_add.cls ∈ WS := ⟨List.mem_of_getElem? (i := 340) rfl, List.mem_of_getElem? (i := 341) rfl, List.mem_of_getElem? (i := 5) rfl⟩
set_option maxRecDepth 100000 in
theorem wi_Item_at : Cond.instanceMethod y_Item_at ∈ WS ∧ Cond.selects y_Item_at.cls y_Item_at y_Item_at ∈ WS ∧ Cond.initialized y_Item_at.cls ∈ WS := ⟨List.mem_of_getElem? (i := 375) rfl, List.mem_of_getElem? (i := 376) rfl, List.mem_of_getElem? (i := 5) rfl⟩
set_option maxRecDepth 100000 in
theorem wi_Item_isPair : Cond.instanceMethod y_Item_isPair ∈ WS ∧ Cond.selects y_Item_isPair.cls y_Item_isPair y_Item_isPair ∈ WS ∧ Cond.initialized y_Item_isPair.cls ∈ WS := ⟨List.mem_of_getElem? (i := 368) rfl, List.mem_of_getElem? (i := 369) rfl, List.mem_of_getElem? (i := 5) rfl⟩
set_option maxRecDepth 100000 in
theorem wi_Item_codeAt : Cond.instanceMethod y_Item_codeAt ∈ WS ∧ Cond.selects y_Item_codeAt.cls y_Item_codeAt y_Item_codeAt ∈ WS ∧ Cond.initialized y_Item_codeAt.cls ∈ WS := ⟨List.mem_of_getElem? (i := 472) rfl, List.mem_of_getElem? (i := 473) rfl, List.mem_of_getElem? (i := 5) rfl⟩
set_option maxRecDepth 100000 in
theorem wi_Item_endOf : Cond.instanceMethod y_Item_endOf ∈ WS ∧ Cond.selects y_Item_endOf.cls y_Item_endOf y_Item_endOf ∈ WS ∧ Cond.initialized y_Item_endOf.cls ∈ WS := ⟨List.mem_of_getElem? (i := 450) rfl, List.mem_of_getElem? (i := 451) rfl, List.mem_of_getElem? (i := 5) rfl⟩
set_option maxRecDepth 100000 in
theorem wi_Item_hasLone : Cond.instanceMethod y_Item_hasLone ∈ WS ∧ Cond.selects y_Item_hasLone.cls y_Item_hasLone y_Item_hasLone ∈ WS ∧ Cond.initialized y_Item_hasLone.cls ∈ WS := ⟨List.mem_of_getElem? (i := 364) rfl, List.mem_of_getElem? (i := 365) rfl, List.mem_of_getElem? (i := 5) rfl⟩
set_option maxRecDepth 100000 in
theorem wi_Item_fitsHeader : Cond.instanceMethod y_Item_fitsHeader ∈ WS ∧ Cond.selects y_Item_fitsHeader.cls y_Item_fitsHeader y_Item_fitsHeader ∈ WS ∧ Cond.initialized y_Item_fitsHeader.cls ∈ WS := ⟨List.mem_of_getElem? (i := 383) rfl, List.mem_of_getElem? (i := 384) rfl, List.mem_of_getElem? (i := 5) rfl⟩
set_option maxRecDepth 100000 in
theorem wi_Item_isEscape : Cond.instanceMethod y_Item_isEscape ∈ WS ∧ Cond.selects y_Item_isEscape.cls y_Item_isEscape y_Item_isEscape ∈ WS ∧ Cond.initialized y_Item_isEscape.cls ∈ WS := ⟨List.mem_of_getElem? (i := 465) rfl, List.mem_of_getElem? (i := 466) rfl, List.mem_of_getElem? (i := 5) rfl⟩
theorem wi_Line_init : Cond.instanceMethod y_Line_init ∈ WS := List.mem_of_getElem? (i := 106) rfl
theorem wi_Line_clear : Cond.instanceMethod y_Line_clear ∈ WS ∧ Cond.selects y_Line_clear.cls y_Line_clear y_Line_clear ∈ WS ∧ Cond.initialized y_Line_clear.cls ∈ WS := ⟨List.mem_of_getElem? (i := 142) rfl, List.mem_of_getElem? (i := 143) rfl, List.mem_of_getElem? (i := 9) rfl⟩
set_option maxRecDepth 100000 in
theorem wi_Line_add : Cond.instanceMethod y_Line_add ∈ WS ∧ Cond.selects y_Line_add.cls y_Line_add y_Line_add ∈ WS ∧ Cond.initialized y_Line_add.cls ∈ WS := ⟨List.mem_of_getElem? (i := 554) rfl, List.mem_of_getElem? (i := 555) rfl, List.mem_of_getElem? (i := 9) rfl⟩
set_option maxRecDepth 100000 in
theorem wi_Line_at : Cond.instanceMethod y_Line_at ∈ WS ∧ Cond.selects y_Line_at.cls y_Line_at y_Line_at ∈ WS ∧ Cond.initialized y_Line_at.cls ∈ WS := ⟨List.mem_of_getElem? (i := 569) rfl, List.mem_of_getElem? (i := 570) rfl, List.mem_of_getElem? (i := 9) rfl⟩
set_option maxRecDepth 100000 in
theorem wi_Line_startsWith : Cond.instanceMethod y_Line_startsWith ∈ WS ∧ Cond.selects y_Line_startsWith.cls y_Line_startsWith y_Line_startsWith ∈ WS ∧ Cond.initialized y_Line_startsWith.cls ∈ WS := ⟨List.mem_of_getElem? (i := 576) rfl, List.mem_of_getElem? (i := 577) rfl, List.mem_of_getElem? (i := 9) rfl⟩
set_option maxRecDepth 100000 in
theorem wi_Line_isWord : Cond.instanceMethod y_Line_isWord ∈ WS ∧ Cond.selects y_Line_isWord.cls y_Line_isWord y_Line_isWord ∈ WS ∧ Cond.initialized y_Line_isWord.cls ∈ WS := ⟨List.mem_of_getElem? (i := 620) rfl, List.mem_of_getElem? (i := 621) rfl, List.mem_of_getElem? (i := 9) rfl⟩
set_option maxRecDepth 100000 in
theorem wi_Line_colonBehindName : Cond.instanceMethod y_Line_colonBehindName ∈ WS ∧ Cond.selects y_Line_colonBehindName.cls y_Line_colonBehindName y_Line_colonBehindName ∈ WS ∧ Cond.initialized y_Line_colonBehindName.cls ∈ WS := ⟨List.mem_of_getElem? (i := 604) rfl, List.mem_of_getElem? (i := 605) rfl, List.mem_of_getElem? (i := 9) rfl⟩
set_option maxRecDepth 100000 in
theorem wi_Line_skipBlanks : Cond.instanceMethod y_Line_skipBlanks ∈ WS ∧ Cond.selects y_Line_skipBlanks.cls y_Line_skipBlanks y_Line_skipBlanks ∈ WS ∧ Cond.initialized y_Line_skipBlanks.cls ∈ WS := ⟨List.mem_of_getElem? (i := 609) rfl, List.mem_of_getElem? (i := 610) rfl, List.mem_of_getElem? (i := 9) rfl⟩
set_option maxRecDepth 100000 in
theorem wi_Line_endWithoutBlanks : Cond.instanceMethod y_Line_endWithoutBlanks ∈ WS ∧ Cond.selects y_Line_endWithoutBlanks.cls y_Line_endWithoutBlanks y_Line_endWithoutBlanks ∈ WS ∧ Cond.initialized y_Line_endWithoutBlanks.cls ∈ WS := ⟨List.mem_of_getElem? (i := 616) rfl, List.mem_of_getElem? (i := 617) rfl, List.mem_of_getElem? (i := 9) rfl⟩
set_option maxRecDepth 100000 in
theorem wi_Line_number : Cond.instanceMethod y_Line_number ∈ WS ∧ Cond.selects y_Line_number.cls y_Line_number y_Line_number ∈ WS ∧ Cond.initialized y_Line_number.cls ∈ WS := ⟨List.mem_of_getElem? (i := 565) rfl, List.mem_of_getElem? (i := 566) rfl, List.mem_of_getElem? (i := 9) rfl⟩
set_option maxRecDepth 100000 in
theorem wi_Line_chunkSize : Cond.instanceMethod y_Line_chunkSize ∈ WS ∧ Cond.selects y_Line_chunkSize.cls y_Line_chunkSize y_Line_chunkSize ∈ WS ∧ Cond.initialized y_Line_chunkSize.cls ∈ WS := ⟨List.mem_of_getElem? (i := 633) rfl, List.mem_of_getElem? (i := 634) rfl, List.mem_of_getElem? (i := 9) rfl⟩
theorem wi_Parameter_init : Cond.instanceMethod y_Parameter_init ∈ WS := List.mem_of_getElem? (i := 47) rfl
theorem wi_Parameter_begin : Cond.instanceMethod y_Parameter_begin ∈ WS ∧ Cond.selects y_Parameter_begin.cls y_Parameter_begin y_Parameter_begin ∈ WS ∧ Cond.initialized y_Parameter_begin.cls ∈ WS := ⟨List.mem_of_getElem? (i := 200) rfl, List.mem_of_getElem? (i := 201) rfl, List.mem_of_getElem? (i := 4) rfl⟩
theorem wi_Parameter_isInPath : Cond.instanceMethod y_Parameter_isInPath ∈ WS ∧ Cond.selects y_Parameter_isInPath.cls y_Parameter_isInPath y_Parameter_isInPath ∈ WS ∧ Cond.initialized y_Parameter_isInPath.cls ∈ WS := ⟨List.mem_of_getElem? (i := 293) rfl, List.mem_of_getElem? (i := 294) rfl, List.mem_of_getElem? (i := 4) rfl⟩
set_option maxRecDepth 100000 in
theorem wi_Parameter_addItem : Cond.instanceMethod y_Parameter_addItem ∈ WS ∧ Cond.selects y_Parameter_addItem.cls y_Parameter_addItem y_Parameter_addItem ∈ WS ∧ Cond.initialized y_Parameter_addItem.cls ∈ WS := ⟨List.mem_of_getElem? (i := 328) rfl, List.mem_of_getElem? (i := 329) rfl, List.mem_of_getElem? (i := 4) rfl⟩
set_option maxRecDepth 100000 in
theorem wi_Parameter_addChar : Cond.instanceMethod y_Parameter_addChar ∈ WS ∧ Cond.selects y_Parameter_addChar.cls y_Parameter_addChar y_Parameter_addChar ∈ WS ∧ Cond.initialized y_Parameter_addChar.cls ∈ WS := ⟨List.mem_of_getElem? (i := 336) rfl, List.mem_of_getElem? (i := 337) rfl, List.mem_of_getElem? (i := 4) rfl⟩
set_option maxRecDepth 100000 in
theorem wi_Parameter_dropItems : Cond.instanceMethod y_Parameter_dropItems ∈ WS ∧ Cond.selects y_Parameter_dropItems.cls y_Parameter_dropItems y_Parameter_dropItems ∈ WS ∧ Cond.initialized y_Parameter_dropItems.cls ∈ WS := ⟨List.mem_of_getElem? (i := 348) rfl, List.mem_of_getElem? (i := 349) rfl, List.mem_of_getElem? (i := 4) rfl⟩
set_option maxRecDepth 100000 in
theorem wi_Parameter_hasLone : Cond.instanceMethod y_Parameter_hasLone ∈ WS ∧ Cond.selects y_Parameter_hasLone.cls y_Parameter_hasLone y_Parameter_hasLone ∈ WS ∧ Cond.initialized y_Parameter_hasLone.cls ∈ WS := ⟨List.mem_of_getElem? (i := 360) rfl, List.mem_of_getElem? (i := 361) rfl, List.mem_of_getElem? (i := 4) rfl⟩
set_option maxRecDepth 100000 in
theorem wi_Parameter_fitsHeader : Cond.instanceMethod y_Parameter_fitsHeader ∈ WS ∧ Cond.selects y_Parameter_fitsHeader.cls y_Parameter_fitsHeader y_Parameter_fitsHeader ∈ WS ∧ Cond.initialized y_Parameter_fitsHeader.cls ∈ WS := ⟨List.mem_of_getElem? (i := 379) rfl, List.mem_of_getElem? (i := 380) rfl, List.mem_of_getElem? (i := 4) rfl⟩
theorem wi_PathTemplate_init : Cond.instanceMethod y_PathTemplate_init ∈ WS := List.mem_of_getElem? (i := 36) rfl
theorem wi_PathTemplate_add : Cond.instanceMethod y_PathTemplate_add ∈ WS ∧ Cond.selects y_PathTemplate_add.cls y_PathTemplate_add y_PathTemplate_add ∈ WS ∧ Cond.initialized y_PathTemplate_add.cls ∈ WS := ⟨List.mem_of_getElem? (i := 185) rfl, List.mem_of_getElem? (i := 186) rfl, List.mem_of_getElem? (i := 3) rfl⟩
theorem wi_PathTemplate_at : Cond.instanceMethod y_PathTemplate_at ∈ WS ∧ Cond.selects y_PathTemplate_at.cls y_PathTemplate_at y_PathTemplate_at ∈ WS ∧ Cond.initialized y_PathTemplate_at.cls ∈ WS := ⟨List.mem_of_getElem? (i := 216) rfl, List.mem_of_getElem? (i := 217) rfl, List.mem_of_getElem? (i := 3) rfl⟩
theorem wi_PathTemplate_isWellFormed : Cond.instanceMethod y_PathTemplate_isWellFormed ∈ WS ∧ Cond.selects y_PathTemplate_isWellFormed.cls y_PathTemplate_isWellFormed y_PathTemplate_isWellFormed ∈ WS ∧ Cond.initialized y_PathTemplate_isWellFormed.cls ∈ WS := ⟨List.mem_of_getElem? (i := 212) rfl, List.mem_of_getElem? (i := 213) rfl, List.mem_of_getElem? (i := 3) rfl⟩
theorem wt_PathTemplate_placeBehind : Cond.static y_PathTemplate_placeBehind ∈ WS ∧ Cond.initialized y_PathTemplate_placeBehind.cls ∈ WS := ⟨List.mem_of_getElem? (i := 220) rfl, List.mem_of_getElem? (i := 3) rfl⟩
theorem wt_PathTemplate_placeBehindVariable : Cond.static y_PathTemplate_placeBehindVariable ∈ WS ∧ Cond.initialized y_PathTemplate_placeBehindVariable.cls ∈ WS := ⟨List.mem_of_getElem? (i := 278) rfl, List.mem_of_getElem? (i := 3) rfl⟩
theorem wi_PathTemplate_isVariable : Cond.instanceMethod y_PathTemplate_isVariable ∈ WS ∧ Cond.selects y_PathTemplate_isVariable.cls y_PathTemplate_isVariable y_PathTemplate_isVariable ∈ WS ∧ Cond.initialized y_PathTemplate_isVariable.cls ∈ WS := ⟨List.mem_of_getElem? (i := 284) rfl, List.mem_of_getElem? (i := 285) rfl, List.mem_of_getElem? (i := 3) rfl⟩
set_option maxRecDepth 100000 in
theorem wi_PathTemplate_isSpread : Cond.instanceMethod y_PathTemplate_isSpread ∈ WS ∧ Cond.selects y_PathTemplate_isSpread.cls y_PathTemplate_isSpread y_PathTemplate_isSpread ∈ WS ∧ Cond.initialized y_PathTemplate_isSpread.cls ∈ WS := ⟨List.mem_of_getElem? (i := 441) rfl, List.mem_of_getElem? (i := 442) rfl, List.mem_of_getElem? (i := 3) rfl⟩
set_option maxRecDepth 100000 in
theorem wi_PathTemplate_isCut : Cond.instanceMethod y_PathTemplate_isCut ∈ WS ∧ Cond.selects y_PathTemplate_isCut.cls y_PathTemplate_isCut y_PathTemplate_isCut ∈ WS ∧ Cond.initialized y_PathTemplate_isCut.cls ∈ WS := ⟨List.mem_of_getElem? (i := 309) rfl, List.mem_of_getElem? (i := 310) rfl, List.mem_of_getElem? (i := 3) rfl⟩
set_option maxRecDepth 100000 in
theorem wi_PathTemplate_charactersFor : Cond.instanceMethod y_PathTemplate_charactersFor ∈ WS ∧ Cond.selects y_PathTemplate_charactersFor.cls y_PathTemplate_charactersFor y_PathTemplate_charactersFor ∈ WS ∧ Cond.initialized y_PathTemplate_charactersFor.cls ∈ WS := ⟨List.mem_of_getElem? (i := 445) rfl, List.mem_of_getElem? (i := 446) rfl, List.mem_of_getElem? (i := 3) rfl⟩
set_option maxRecDepth 100000 in
theorem wi_PathTemplate_operatorBehind : Cond.instanceMethod y_PathTemplate_operatorBehind ∈ WS ∧ Cond.selects y_PathTemplate_operatorBehind.cls y_PathTemplate_operatorBehind y_PathTemplate_operatorBehind ∈ WS ∧ Cond.initialized y_PathTemplate_operatorBehind.cls ∈ WS := ⟨List.mem_of_getElem? (i := 423) rfl, List.mem_of_getElem? (i := 424) rfl, List.mem_of_getElem? (i := 3) rfl⟩
theorem wi_Reader_init : Cond.instanceMethod y_Reader_init ∈ WS := List.mem_of_getElem? (i := 101) rfl
theorem wi_Reader_restart : Cond.instanceMethod y_Reader_restart ∈ WS ∧ Cond.selects y_Reader_restart.cls y_Reader_restart y_Reader_restart ∈ WS ∧ Cond.initialized y_Reader_restart.cls ∈ WS := ⟨List.mem_of_getElem? (i := 138) rfl, List.mem_of_getElem? (i := 139) rfl, List.mem_of_getElem? (i := 8) rfl⟩
set_option maxRecDepth 100000 in
theorem wi_Reader_end : Cond.instanceMethod y_Reader_end ∈ WS ∧ Cond.selects y_Reader_end.cls y_Reader_end y_Reader_end ∈ WS ∧ Cond.initialized y_Reader_end.cls ∈ WS := ⟨List.mem_of_getElem? (i := 649) rfl, List.mem_of_getElem? (i := 650) rfl, List.mem_of_getElem? (i := 8) rfl⟩
set_option maxRecDepth 100000 in
theorem wi_Reader_take : Cond.instanceMethod y_Reader_take ∈ WS ∧ Cond.selects y_Reader_take.cls y_Reader_take y_Reader_take ∈ WS ∧ Cond.initialized y_Reader_take.cls ∈ WS := ⟨List.mem_of_getElem? (i := 537) rfl, List.mem_of_getElem? (i := 538) rfl, List.mem_of_getElem? (i := 8) rfl⟩
set_option maxRecDepth 100000 in
theorem wi_Reader_takeCounted : Cond.instanceMethod y_Reader_takeCounted ∈ WS ∧ Cond.selects y_Reader_takeCounted.cls y_Reader_takeCounted y_Reader_takeCounted ∈ WS ∧ Cond.initialized y_Reader_takeCounted.cls ∈ WS := ⟨List.mem_of_getElem? (i := 541) rfl, List.mem_of_getElem? (i := 1044) rfl, List.mem_of_getElem? (i := 8) rfl⟩
set_option maxRecDepth 100000 in
theorem wi_Reader_takeUncounted : Cond.instanceMethod y_Reader_takeUncounted ∈ WS ∧ Cond.selects y_Reader_takeUncounted.cls y_Reader_takeUncounted y_Reader_takeUncounted ∈ WS ∧ Cond.initialized y_Reader_takeUncounted.cls ∈ WS := ⟨List.mem_of_getElem? (i := 545) rfl, List.mem_of_getElem? (i := 1045) rfl, List.mem_of_getElem? (i := 8) rfl⟩
set_option maxRecDepth 100000 in
theorem wi_Reader_takeDue : Cond.instanceMethod y_Reader_takeDue ∈ WS ∧ Cond.selects y_Reader_takeDue.cls y_Reader_takeDue y_Reader_takeDue ∈ WS ∧ Cond.initialized y_Reader_takeDue.cls ∈ WS := ⟨List.mem_of_getElem? (i := 548) rfl, List.mem_of_getElem? (i := 1046) rfl, List.mem_of_getElem? (i := 8) rfl⟩
set_option maxRecDepth 100000 in
theorem wi_Reader_takeOfLine : Cond.instanceMethod y_Reader_takeOfLine ∈ WS ∧ Cond.selects y_Reader_takeOfLine.cls y_Reader_takeOfLine y_Reader_takeOfLine ∈ WS ∧ Cond.initialized y_Reader_takeOfLine.cls ∈ WS := ⟨List.mem_of_getElem? (i := 551) rfl, List.mem_of_getElem? (i := 1047) rfl, List.mem_of_getElem? (i := 8) rfl⟩
set_option maxRecDepth 100000 in
theorem wi_Reader_readLine : Cond.instanceMethod y_Reader_readLine ∈ WS ∧ Cond.selects y_Reader_readLine.cls y_Reader_readLine y_Reader_readLine ∈ WS ∧ Cond.initialized y_Reader_readLine.cls ∈ WS := ⟨List.mem_of_getElem? (i := 558) rfl, List.mem_of_getElem? (i := 1048) rfl, List.mem_of_getElem? (i := 8) rfl⟩
set_option maxRecDepth 100000 in
theorem wi_Reader_endHead : Cond.instanceMethod y_Reader_endHead ∈ WS ∧ Cond.selects y_Reader_endHead.cls y_Reader_endHead y_Reader_endHead ∈ WS ∧ Cond.initialized y_Reader_endHead.cls ∈ WS := ⟨List.mem_of_getElem? (i := 583) rfl, List.mem_of_getElem? (i := 1049) rfl, List.mem_of_getElem? (i := 8) rfl⟩
set_option maxRecDepth 100000 in
theorem wi_Reader_beginContent : Cond.instanceMethod y_Reader_beginContent ∈ WS ∧ Cond.selects y_Reader_beginContent.cls y_Reader_beginContent y_Reader_beginContent ∈ WS ∧ Cond.initialized y_Reader_beginContent.cls ∈ WS := ⟨List.mem_of_getElem? (i := 597) rfl, List.mem_of_getElem? (i := 1050) rfl, List.mem_of_getElem? (i := 8) rfl⟩
set_option maxRecDepth 100000 in
theorem wi_Reader_beginChunk : Cond.instanceMethod y_Reader_beginChunk ∈ WS ∧ Cond.selects y_Reader_beginChunk.cls y_Reader_beginChunk y_Reader_beginChunk ∈ WS ∧ Cond.initialized y_Reader_beginChunk.cls ∈ WS := ⟨List.mem_of_getElem? (i := 638) rfl, List.mem_of_getElem? (i := 1051) rfl, List.mem_of_getElem? (i := 8) rfl⟩
set_option maxRecDepth 100000 in
theorem wi_Reader_endContent : Cond.instanceMethod y_Reader_endContent ∈ WS ∧ Cond.selects y_Reader_endContent.cls y_Reader_endContent y_Reader_endContent ∈ WS ∧ Cond.initialized y_Reader_endContent.cls ∈ WS := ⟨List.mem_of_getElem? (i := 594) rfl, List.mem_of_getElem? (i := 1052) rfl, List.mem_of_getElem? (i := 8) rfl⟩
theorem wi_RequestWriter_init : Cond.instanceMethod y_RequestWriter_init ∈ WS := List.mem_of_getElem? (i := 78) rfl
set_option maxRecDepth 100000 in
theorem wi_RequestWriter_compose : Cond.instanceMethod y_RequestWriter_compose ∈ WS ∧ Cond.selects y_RequestWriter_compose.cls y_RequestWriter_compose y_RequestWriter_compose ∈ WS ∧ Cond.initialized y_RequestWriter_compose.cls ∈ WS := ⟨List.mem_of_getElem? (i := 387) rfl, List.mem_of_getElem? (i := 388) rfl, List.mem_of_getElem? (i := 6) rfl⟩
set_option maxRecDepth 100000 in
theorem wi_RequestWriter_putExpanded : Cond.instanceMethod y_RequestWriter_putExpanded ∈ WS ∧ Cond.selects y_RequestWriter_putExpanded.cls y_RequestWriter_putExpanded y_RequestWriter_putExpanded ∈ WS ∧ Cond.initialized y_RequestWriter_putExpanded.cls ∈ WS := ⟨List.mem_of_getElem? (i := 419) rfl, List.mem_of_getElem? (i := 1053) rfl, List.mem_of_getElem? (i := 6) rfl⟩
set_option maxRecDepth 100000 in
theorem wt_RequestWriter_putStartOrBreak : Cond.static y_RequestWriter_putStartOrBreak ∈ WS ∧ Cond.initialized y_RequestWriter_putStartOrBreak.cls ∈ WS := ⟨List.mem_of_getElem? (i := 429) rfl, List.mem_of_getElem? (i := 6) rfl⟩
set_option maxRecDepth 100000 in
theorem wt_RequestWriter_startsWithItself : Cond.static y_RequestWriter_startsWithItself ∈ WS ∧ Cond.initialized y_RequestWriter_startsWithItself.cls ∈ WS := ⟨List.mem_of_getElem? (i := 435) rfl, List.mem_of_getElem? (i := 6) rfl⟩
set_option maxRecDepth 100000 in
theorem wt_RequestWriter_breakOf : Cond.static y_RequestWriter_breakOf ∈ WS ∧ Cond.initialized y_RequestWriter_breakOf.cls ∈ WS := ⟨List.mem_of_getElem? (i := 432) rfl, List.mem_of_getElem? (i := 6) rfl⟩
set_option maxRecDepth 100000 in
theorem wi_RequestWriter_putVariable : Cond.instanceMethod y_RequestWriter_putVariable ∈ WS ∧ Cond.selects y_RequestWriter_putVariable.cls y_RequestWriter_putVariable y_RequestWriter_putVariable ∈ WS ∧ Cond.initialized y_RequestWriter_putVariable.cls ∈ WS := ⟨List.mem_of_getElem? (i := 438) rfl, List.mem_of_getElem? (i := 1054) rfl, List.mem_of_getElem? (i := 6) rfl⟩
set_option maxRecDepth 100000 in
theorem wi_RequestWriter_putQuery : Cond.instanceMethod y_RequestWriter_putQuery ∈ WS ∧ Cond.selects y_RequestWriter_putQuery.cls y_RequestWriter_putQuery y_RequestWriter_putQuery ∈ WS ∧ Cond.initialized y_RequestWriter_putQuery.cls ∈ WS := ⟨List.mem_of_getElem? (i := 491) rfl, List.mem_of_getElem? (i := 1055) rfl, List.mem_of_getElem? (i := 6) rfl⟩
set_option maxRecDepth 100000 in
theorem wt_RequestWriter_putQueryItems : Cond.static y_RequestWriter_putQueryItems ∈ WS ∧ Cond.initialized y_RequestWriter_putQueryItems.cls ∈ WS := ⟨List.mem_of_getElem? (i := 494) rfl, List.mem_of_getElem? (i := 6) rfl⟩
set_option maxRecDepth 100000 in
theorem wi_RequestWriter_putHeaders : Cond.instanceMethod y_RequestWriter_putHeaders ∈ WS ∧ Cond.selects y_RequestWriter_putHeaders.cls y_RequestWriter_putHeaders y_RequestWriter_putHeaders ∈ WS ∧ Cond.initialized y_RequestWriter_putHeaders.cls ∈ WS := ⟨List.mem_of_getElem? (i := 501) rfl, List.mem_of_getElem? (i := 1056) rfl, List.mem_of_getElem? (i := 6) rfl⟩
set_option maxRecDepth 100000 in
theorem wt_RequestWriter_putHeader : Cond.static y_RequestWriter_putHeader ∈ WS ∧ Cond.initialized y_RequestWriter_putHeader.cls ∈ WS := ⟨List.mem_of_getElem? (i := 504) rfl, List.mem_of_getElem? (i := 6) rfl⟩
set_option maxRecDepth 100000 in
theorem wt_RequestWriter_putAscii : Cond.static y_RequestWriter_putAscii ∈ WS ∧ Cond.initialized y_RequestWriter_putAscii.cls ∈ WS := ⟨List.mem_of_getElem? (i := 507) rfl, List.mem_of_getElem? (i := 6) rfl⟩
set_option maxRecDepth 100000 in
theorem wi_RequestWriter_putBodyOrForm : Cond.instanceMethod y_RequestWriter_putBodyOrForm ∈ WS ∧ Cond.selects y_RequestWriter_putBodyOrForm.cls y_RequestWriter_putBodyOrForm y_RequestWriter_putBodyOrForm ∈ WS ∧ Cond.initialized y_RequestWriter_putBodyOrForm.cls ∈ WS := ⟨List.mem_of_getElem? (i := 512) rfl, List.mem_of_getElem? (i := 1057) rfl, List.mem_of_getElem? (i := 6) rfl⟩
set_option maxRecDepth 100000 in
theorem wt_RequestWriter_putFormItems : Cond.static y_RequestWriter_putFormItems ∈ WS ∧ Cond.initialized y_RequestWriter_putFormItems.cls ∈ WS := ⟨List.mem_of_getElem? (i := 518) rfl, List.mem_of_getElem? (i := 6) rfl⟩
set_option maxRecDepth 100000 in
theorem wi_String_charAt : Cond.instanceMethod y_String_charAt ∈ WS ∧ Cond.selects y_String_charAt.cls y_String_charAt y_String_charAt ∈ WS ∧ Cond.initialized y_String_charAt.cls ∈ WS := ⟨List.mem_of_getElem? (i := 400) rfl, List.mem_of_getElem? (i := 401) rfl, List.mem_of_getElem? (i := 13) rfl⟩
theorem wi_String_coder : Cond.instanceMethod y_String_coder ∈ WS ∧ Cond.selects y_String_coder.cls y_String_coder y_String_coder ∈ WS ∧ Cond.initialized y_String_coder.cls ∈ WS := ⟨List.mem_of_getElem? (i := 246) rfl, List.mem_of_getElem? (i := 247) rfl, List.mem_of_getElem? (i := 13) rfl⟩
theorem wi_String_indexOf : Cond.instanceMethod y_String_indexOf ∈ WS ∧ Cond.selects y_String_indexOf.cls y_String_indexOf y_String_indexOf ∈ WS ∧ Cond.initialized y_String_indexOf.cls ∈ WS := ⟨List.mem_of_getElem? (i := 229) rfl, List.mem_of_getElem? (i := 230) rfl, List.mem_of_getElem? (i := 13) rfl⟩
theorem wi_String_indexOf2 : Cond.instanceMethod y_String_indexOf2 ∈ WS ∧ Cond.selects y_String_indexOf2.cls y_String_indexOf2 y_String_indexOf2 ∈ WS ∧ Cond.initialized y_String_indexOf2.cls ∈ WS := ⟨List.mem_of_getElem? (i := 233) rfl, List.mem_of_getElem? (i := 234) rfl, List.mem_of_getElem? (i := 13) rfl⟩
theorem wi_String_isLatin1 : Cond.instanceMethod y_String_isLatin1 ∈ WS ∧ Cond.selects y_String_isLatin1.cls y_String_isLatin1 y_String_isLatin1 ∈ WS ∧ Cond.initialized y_String_isLatin1.cls ∈ WS := ⟨List.mem_of_getElem? (i := 237) rfl, List.mem_of_getElem? (i := 238) rfl, List.mem_of_getElem? (i := 13) rfl⟩
theorem wi_String_length : Cond.instanceMethod y_String_length ∈ WS ∧ Cond.selects y_String_length.cls y_String_length y_String_length ∈ WS ∧ Cond.initialized y_String_length.cls ∈ WS := ⟨List.mem_of_getElem? (i := 242) rfl, List.mem_of_getElem? (i := 243) rfl, List.mem_of_getElem? (i := 13) rfl⟩
set_option maxRecDepth 100000 in
theorem wt_String_checkIndex : Cond.static y_String_checkIndex ∈ WS ∧ Cond.initialized y_String_checkIndex.cls ∈ WS := ⟨List.mem_of_getElem? (i := 407) rfl, List.mem_of_getElem? (i := 13) rfl⟩
theorem wt_StringLatin1_canEncode : Cond.static y_StringLatin1_canEncode ∈ WS ∧ Cond.initialized y_StringLatin1_canEncode.cls ∈ WS := ⟨List.mem_of_getElem? (i := 253) rfl, List.mem_of_getElem? (i := 14) rfl⟩
set_option maxRecDepth 100000 in
theorem wt_StringLatin1_charAt : Cond.static y_StringLatin1_charAt ∈ WS ∧ Cond.initialized y_StringLatin1_charAt.cls ∈ WS := ⟨List.mem_of_getElem? (i := 404) rfl, List.mem_of_getElem? (i := 14) rfl⟩
theorem wt_StringLatin1_indexOf : Cond.static y_StringLatin1_indexOf ∈ WS ∧ Cond.initialized y_StringLatin1_indexOf.cls ∈ WS := ⟨List.mem_of_getElem? (i := 250) rfl, List.mem_of_getElem? (i := 14) rfl⟩
theorem wt_StringLatin1_indexOfChar : Cond.static y_StringLatin1_indexOfChar ∈ WS ∧ Cond.initialized y_StringLatin1_indexOfChar.cls ∈ WS := ⟨List.mem_of_getElem? (i := 262) rfl, List.mem_of_getElem? (i := 14) rfl⟩
theorem wt_Math_max : Cond.static y_Math_max ∈ WS ∧ Cond.initialized y_Math_max.cls ∈ WS := ⟨List.mem_of_getElem? (i := 256) rfl, List.mem_of_getElem? (i := 15) rfl⟩
theorem wt_Math_min : Cond.static y_Math_min ∈ WS ∧ Cond.initialized y_Math_min.cls ∈ WS := ⟨List.mem_of_getElem? (i := 259) rfl, List.mem_of_getElem? (i := 15) rfl⟩
set_option maxRecDepth 100000 in
theorem wt_Preconditions_checkIndex : Cond.static y_Preconditions_checkIndex ∈ WS ∧ Cond.initialized y_Preconditions_checkIndex.cls ∈ WS := ⟨List.mem_of_getElem? (i := 410) rfl, List.mem_of_getElem? (i := 17) rfl⟩
theorem nf_Declaration_32 : ("TemplateCaller$Declaration", 32, "TemplateCaller$PathTemplate", "size", "I", "TemplateCaller") ∈ NF := List.mem_of_getElem? (i := 0) rfl
theorem nf_RequestWriter_72 : ("TemplateCaller$RequestWriter", 72, "TemplateCaller$PathTemplate", "size", "I", "TemplateCaller") ∈ NF := List.mem_of_getElem? (i := 1) rfl
theorem nf_Encoder_46 : ("TemplateCaller$Encoder", 46, "TemplateCaller$Item", "size", "I", "TemplateCaller") ∈ NF := List.mem_of_getElem? (i := 2) rfl
theorem nf_Parameter_27 : ("TemplateCaller$Parameter", 27, "TemplateCaller$Item", "size", "I", "TemplateCaller") ∈ NF := List.mem_of_getElem? (i := 3) rfl
theorem nf_RequestWriter_128 : ("TemplateCaller$RequestWriter", 128, "TemplateCaller$Item", "size", "I", "TemplateCaller") ∈ NF := List.mem_of_getElem? (i := 4) rfl
theorem nf_RequestWriter_120 : ("TemplateCaller$RequestWriter", 120, "TemplateCaller$Parameter", "items", "[LTemplateCaller$Item;", "TemplateCaller") ∈ NF := List.mem_of_getElem? (i := 5) rfl
theorem nf_RequestWriter_90 : ("TemplateCaller$RequestWriter", 90, "TemplateCaller$Parameter", "count", "I", "TemplateCaller") ∈ NF := List.mem_of_getElem? (i := 6) rfl
theorem nf_RequestWriter_143 : ("TemplateCaller$RequestWriter", 143, "TemplateCaller$Parameter", "kind", "I", "TemplateCaller") ∈ NF := List.mem_of_getElem? (i := 7) rfl
theorem nf_Declaration_82 : ("TemplateCaller$Declaration", 82, "TemplateCaller$Parameter", "kind", "I", "TemplateCaller") ∈ NF := List.mem_of_getElem? (i := 8) rfl
theorem nf_Declaration_53 : ("TemplateCaller$Declaration", 53, "TemplateCaller$Parameter", "letter", "C", "TemplateCaller") ∈ NF := List.mem_of_getElem? (i := 9) rfl
theorem nf_RequestWriter_124 : ("TemplateCaller$RequestWriter", 124, "TemplateCaller$Parameter", "letter", "C", "TemplateCaller") ∈ NF := List.mem_of_getElem? (i := 10) rfl
theorem nf_RequestWriter_22 : ("TemplateCaller$RequestWriter", 22, "TemplateCaller$Declaration", "path", "LTemplateCaller$PathTemplate;", "TemplateCaller") ∈ NF := List.mem_of_getElem? (i := 11) rfl
theorem nf_TC_47 : ("TemplateCaller", 47, "TemplateCaller$Declaration", "path", "LTemplateCaller$PathTemplate;", "TemplateCaller") ∈ NF := List.mem_of_getElem? (i := 12) rfl
theorem nf_RequestWriter_139 : ("TemplateCaller$RequestWriter", 139, "TemplateCaller$Declaration", "parameters", "[LTemplateCaller$Parameter;", "TemplateCaller") ∈ NF := List.mem_of_getElem? (i := 13) rfl
theorem nf_RequestWriter_138 : ("TemplateCaller$RequestWriter", 138, "TemplateCaller$Declaration", "count", "I", "TemplateCaller") ∈ NF := List.mem_of_getElem? (i := 14) rfl
theorem nf_TC_101 : ("TemplateCaller", 101, "TemplateCaller$Declaration", "verb", "I", "TemplateCaller") ∈ NF := List.mem_of_getElem? (i := 15) rfl
theorem nf_RequestWriter_29 : ("TemplateCaller$RequestWriter", 29, "TemplateCaller$ByteRow", "size", "I", "TemplateCaller") ∈ NF := List.mem_of_getElem? (i := 16) rfl
theorem nf_Reader_41 : ("TemplateCaller$Reader", 41, "TemplateCaller$ByteRow", "size", "I", "TemplateCaller") ∈ NF := List.mem_of_getElem? (i := 17) rfl
theorem nf_TC_93 : ("TemplateCaller", 93, "TemplateCaller$ByteRow", "size", "I", "TemplateCaller") ∈ NF := List.mem_of_getElem? (i := 18) rfl
theorem nf_Reader_86 : ("TemplateCaller$Reader", 86, "TemplateCaller$Line", "size", "I", "TemplateCaller") ∈ NF := List.mem_of_getElem? (i := 19) rfl
theorem nf_Reader_110 : ("TemplateCaller$Reader", 110, "TemplateCaller$Head", "statusCode", "I", "TemplateCaller") ∈ NF := List.mem_of_getElem? (i := 20) rfl
theorem nf_TC_124 : ("TemplateCaller", 124, "TemplateCaller$Head", "fieldLines", "I", "TemplateCaller") ∈ NF := List.mem_of_getElem? (i := 21) rfl
theorem nf_Reader_119 : ("TemplateCaller$Reader", 119, "TemplateCaller$Head", "contentLength", "I", "TemplateCaller") ∈ NF := List.mem_of_getElem? (i := 22) rfl
theorem nf_Reader_122 : ("TemplateCaller$Reader", 122, "TemplateCaller$Head", "chunked", "Z", "TemplateCaller") ∈ NF := List.mem_of_getElem? (i := 23) rfl
theorem nf_TC_120 : ("TemplateCaller", 120, "TemplateCaller$Reader", "head", "LTemplateCaller$Head;", "TemplateCaller") ∈ NF := List.mem_of_getElem? (i := 24) rfl
theorem nf_TC_129 : ("TemplateCaller", 129, "TemplateCaller$Reader", "body", "LTemplateCaller$ByteRow;", "TemplateCaller") ∈ NF := List.mem_of_getElem? (i := 25) rfl
theorem nf_TC_108 : ("TemplateCaller", 108, "TemplateCaller$Reader", "state", "I", "TemplateCaller") ∈ NF := List.mem_of_getElem? (i := 26) rfl
theorem nf_TC_117 : ("TemplateCaller", 117, "TemplateCaller$Reader", "endedStatus", "I", "TemplateCaller") ∈ NF := List.mem_of_getElem? (i := 27) rfl
theorem nm_Declaration_11 : ("TemplateCaller$Declaration", 11, y_PathTemplate_init, "TemplateCaller") ∈ NM := List.mem_of_getElem? (i := 0) rfl
theorem nm_Parameter_26 : ("TemplateCaller$Parameter", 26, y_Item_init, "TemplateCaller") ∈ NM := List.mem_of_getElem? (i := 1) rfl
theorem nm_Reader_11 : ("TemplateCaller$Reader", 11, y_Line_init, "TemplateCaller") ∈ NM := List.mem_of_getElem? (i := 2) rfl
theorem wl_Chars_21 : ("TemplateCaller$Chars", 21, "-._~/?=&", 0) ∈ LT := List.mem_of_getElem? (i := 0) rfl
theorem wl_Chars_23 : ("TemplateCaller$Chars", 23, "+./;?&", 1) ∈ LT := List.mem_of_getElem? (i := 1) rfl
theorem wl_Declaration_35 : ("TemplateCaller$Declaration", 35, "HEAD", 2) ∈ LT := List.mem_of_getElem? (i := 2) rfl
theorem wl_Declaration_37 : ("TemplateCaller$Declaration", 37, "POST", 3) ∈ LT := List.mem_of_getElem? (i := 3) rfl
theorem wl_Declaration_39 : ("TemplateCaller$Declaration", 39, "PUT", 4) ∈ LT := List.mem_of_getElem? (i := 4) rfl
theorem wl_Declaration_41 : ("TemplateCaller$Declaration", 41, "DELETE", 5) ∈ LT := List.mem_of_getElem? (i := 5) rfl
theorem wl_Declaration_43 : ("TemplateCaller$Declaration", 43, "GET", 6) ∈ LT := List.mem_of_getElem? (i := 6) rfl
theorem wl_Chars_13 : ("TemplateCaller$Chars", 13, "-._~", 7) ∈ LT := List.mem_of_getElem? (i := 7) rfl
theorem wl_Chars_25 : ("TemplateCaller$Chars", 25, ":/?@!$&'()*+,;=", 8) ∈ LT := List.mem_of_getElem? (i := 8) rfl
theorem wl_RequestWriter_51 : ("TemplateCaller$RequestWriter", 51, " HTTP/1.1\r\nhost: h\r\n", 9) ∈ LT := List.mem_of_getElem? (i := 9) rfl
theorem wl_RequestWriter_156 : ("TemplateCaller$RequestWriter", 156, "x-", 10) ∈ LT := List.mem_of_getElem? (i := 10) rfl
theorem wl_RequestWriter_158 : ("TemplateCaller$RequestWriter", 158, ": ", 11) ∈ LT := List.mem_of_getElem? (i := 11) rfl
theorem wl_RequestWriter_160 : ("TemplateCaller$RequestWriter", 160, ", ", 12) ∈ LT := List.mem_of_getElem? (i := 12) rfl
theorem wl_RequestWriter_68 : ("TemplateCaller$RequestWriter", 68, "\r\n", 13) ∈ LT := List.mem_of_getElem? (i := 13) rfl
theorem wl_RequestWriter_63 : ("TemplateCaller$RequestWriter", 63, "content-length: ", 14) ∈ LT := List.mem_of_getElem? (i := 14) rfl
theorem wl_Head_37 : ("TemplateCaller$Head", 37, "HTTP/1.1 ", 15) ∈ LT := List.mem_of_getElem? (i := 15) rfl
theorem wl_Head_58 : ("TemplateCaller$Head", 58, "content-length", 16) ∈ LT := List.mem_of_getElem? (i := 16) rfl
theorem wl_Head_68 : ("TemplateCaller$Head", 68, "transfer-encoding", 17) ∈ LT := List.mem_of_getElem? (i := 17) rfl
theorem wl_Head_70 : ("TemplateCaller$Head", 70, "chunked", 18) ∈ LT := List.mem_of_getElem? (i := 18) rfl
theorem zs_COMPACT_STRINGS : ("java/lang/String", "COMPACT_STRINGS", "Z", (1 : Int32)) ∈ ZS := List.mem_of_getElem? (i := 0) rfl
theorem sh_0 : sh 0 = .inr (.inr (0, [some 1, some 5, some 6, some 1000, some 1000])) := rfl
theorem sh_1 : sh 1 = .inr (.inr (1, [some 2, some 4, none, none])) := rfl
theorem sh_2 : sh 2 = .inr (.inr (2, [some 3, none])) := rfl
theorem sh_3 : sh 3 = .inl (1, 40) := rfl
theorem sh_4 : sh 4 = .inr (.inl (3, 6, fun j => 10 + j)) := rfl
theorem sh_5 : sh 5 = .inr (.inr (3, [some 1, some 2, some 60])) := rfl
theorem sh_6 : sh 6 = .inr (.inr (4, [some 7, some 9, some 61, none, none, none, none])) := rfl
theorem sh_7 : sh 7 = .inr (.inr (5, [some 8, none, none])) := rfl
theorem sh_8 : sh 8 = .inl (1, 60) := rfl
theorem sh_9 : sh 9 = .inr (.inr (6, [none, none, none, none, none])) := rfl
theorem sh_66 : sh 66 = .inr (.inr (10, [none, none, some 67, none, some 68, some 69, some 70, some 71, some 72, none, some 73, none, some 74, none, none, none, some 75, none, some 76, some 77, none, none, none, none, none, none, none, some 78, none, none, none])) := rfl
theorem sh_67 : sh 67 = .inl (0, 40) := rfl
theorem sh_68 : sh 68 = .inl (0, 6) := rfl
theorem sh_69 : sh 69 = .inl (0, 6) := rfl
theorem sh_70 : sh 70 = .inl (0, 6) := rfl
theorem sh_71 : sh 71 = .inl (0, 18) := rfl
theorem sh_72 : sh 72 = .inl (0, 144) := rfl
theorem sh_73 : sh 73 = .inl (0, 1000) := rfl
theorem sh_74 : sh 74 = .inl (0, 1000) := rfl
theorem sh_75 : sh 75 = .inl (0, 1400) := rfl
theorem sh_76 : sh 76 = .inl (0, 520) := rfl
theorem sh_77 : sh 77 = .inl (0, 520) := rfl
theorem sh_78 : sh 78 = .inl (0, 120) := rfl
theorem nP {k : Nat} (h : k < 6) : 10 + k < nC := by unfold nC; omega
theorem sh_P {k : Nat} (h : k < 6) : sh (10 + k) = .inr (.inr (7, [some (16 + k), none, none, none])) := by
  have hk : k = 0 ∨ k = 1 ∨ k = 2 ∨ k = 3 ∨ k = 4 ∨ k = 5 := by omega
  rcases hk with rfl | rfl | rfl | rfl | rfl | rfl <;> rfl
theorem nPI {k : Nat} (h : k < 6) : 16 + k < nC := by unfold nC; omega
theorem sh_PI {k : Nat} (h : k < 6) : sh (16 + k) = .inr (.inl (4, 3, fun j => 22 + (3 * k + j))) := by
  have hk : k = 0 ∨ k = 1 ∨ k = 2 ∨ k = 3 ∨ k = 4 ∨ k = 5 := by omega
  rcases hk with rfl | rfl | rfl | rfl | rfl | rfl <;> rfl
theorem nI_ {k : Nat} (h : k < 18) : 22 + k < nC := by unfold nC; omega
theorem sh_I {k : Nat} (h : k < 18) : sh (22 + k) = .inr (.inr (8, [some (40 + k), none])) := by
  have hk : k = 0 ∨ k = 1 ∨ k = 2 ∨ k = 3 ∨ k = 4 ∨ k = 5 ∨ k = 6 ∨ k = 7 ∨ k = 8 ∨ k = 9 ∨ k = 10 ∨ k = 11 ∨ k = 12 ∨ k = 13 ∨ k = 14 ∨ k = 15 ∨ k = 16 ∨ k = 17 := by omega
  rcases hk with rfl | rfl | rfl | rfl | rfl | rfl | rfl | rfl | rfl | rfl | rfl | rfl | rfl | rfl | rfl | rfl | rfl | rfl <;> rfl
theorem nIC {k : Nat} (h : k < 18) : 40 + k < nC := by unfold nC; omega
theorem sh_IC {k : Nat} (h : k < 18) : sh (40 + k) = .inl (1, 8) := by
  have hk : k = 0 ∨ k = 1 ∨ k = 2 ∨ k = 3 ∨ k = 4 ∨ k = 5 ∨ k = 6 ∨ k = 7 ∨ k = 8 ∨ k = 9 ∨ k = 10 ∨ k = 11 ∨ k = 12 ∨ k = 13 ∨ k = 14 ∨ k = 15 ∨ k = 16 ∨ k = 17 := by omega
  rcases hk with rfl | rfl | rfl | rfl | rfl | rfl | rfl | rfl | rfl | rfl | rfl | rfl | rfl | rfl | rfl | rfl | rfl | rfl <;> rfl
theorem nR {k : Nat} (h : k < 4) : 58 + k < nC := by unfold nC; omega
theorem sh_R {k : Nat} (h : k < 4) : sh (58 + k) = .inr (.inr (9, [some (62 + k), none])) := by
  have hk : k = 0 ∨ k = 1 ∨ k = 2 ∨ k = 3 := by omega
  rcases hk with rfl | rfl | rfl | rfl <;> rfl
theorem nRB {k : Nat} (h : k < 4) : 62 + k < nC := by unfold nC; omega
theorem sh_RB {k : Nat} (h : k < 4) : sh (62 + k) = .inl (2, bl k) := by
  have hk : k = 0 ∨ k = 1 ∨ k = 2 ∨ k = 3 := by omega
  rcases hk with rfl | rfl | rfl | rfl <;> rfl
